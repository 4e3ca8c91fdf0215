/-! the law's acts: reversals -/
theorem kb1 {m : Nat} (hm : m < 10) {β : Type} (k : Option β) : ckI (nI (6 * m) + 1) 60 k = k := by rw [show nI (6 * m) + 1 = nI (6 * m + 1) from nI_add _ 1]; exact ckI_ok (by omega) (by omega)
theorem kb2 {m : Nat} (hm : m < 10) {β : Type} (k : Option β) : ckI (nI (6 * m) + 2) 60 k = k := by rw [show nI (6 * m) + 2 = nI (6 * m + 2) from nI_add _ 2]; exact ckI_ok (by omega) (by omega)
theorem kb3 {m : Nat} (hm : m < 10) {β : Type} (k : Option β) : ckI (nI (6 * m) + 3) 60 k = k := by rw [show nI (6 * m) + 3 = nI (6 * m + 3) from nI_add _ 3]; exact ckI_ok (by omega) (by omega)
theorem kb4 {m : Nat} (hm : m < 10) {β : Type} (k : Option β) : ckI (nI (6 * m) + 4) 60 k = k := by rw [show nI (6 * m) + 4 = nI (6 * m + 4) from nI_add _ 4]; exact ckI_ok (by omega) (by omega)
theorem cb1 {m : Nat} (hm : m < 10) : (nI (6 * m) + 1).toNatClampNeg = 6 * m + 1 := by rw [show nI (6 * m) + 1 = nI (6 * m + 1) from nI_add _ 1, nI_clamp (by omega)]
theorem cb2 {m : Nat} (hm : m < 10) : (nI (6 * m) + 2).toNatClampNeg = 6 * m + 2 := by rw [show nI (6 * m) + 2 = nI (6 * m + 2) from nI_add _ 2, nI_clamp (by omega)]
theorem cb3 {m : Nat} (hm : m < 10) : (nI (6 * m) + 3).toNatClampNeg = 6 * m + 3 := by rw [show nI (6 * m) + 3 = nI (6 * m + 3) from nI_add _ 3, nI_clamp (by omega)]
theorem cb4 {m : Nat} (hm : m < 10) : (nI (6 * m) + 4).toNatClampNeg = 6 * m + 4 := by rw [show nI (6 * m) + 4 = nI (6 * m + 4) from nI_add _ 4, nI_clamp (by omega)]
theorem keeps_1 {E e : Nat} (hE : E < 2 ^ 30) (h1 : 1 ≤ e) (h2 : e ≤ E) (h3 : E < e + 24) : fX6_keeps (nI E) (nI e) = some 1 := by
  rw [keeps_i hE, if_pos]
  rw [nI_toInt (by omega)]
  omega
section CRE
variable {n E dn t1 t2 : Nat} {Asz : Int32} {Anu : Nat → Int32} {Aba : Nat → Int32} {Amo : Nat → Int32} {Aco : Nat → Int64} {Hsz : Int32} {Hla : Int32} {Hce : Nat → Int32} {Bsz : Int32} {Bla : Int32} {Bce : Nat → Int32} {Tma : Int32} {Tlc : Int32} {Ttc : Nat → Int32} {day : Int32} {lim : Int32} {low : Int32} {hig : Int32} {thr : Int32} {off : Int64} {cre : Int64} {rcp : Int64} {pay : Int64} {ee : Nat → Int32} {mm : Nat → Int64} {qq : Nat → Int32} {hh : Nat → Int32} {bb : Nat → Int32} {sv : Int32} {nx : Int32} {SL : Nat → XS} {rec : (Nat → Int32) → (Nat → Int64) → (Nat → Int32) → (Nat → Int32) → (Nat → Int32) → Int32 → (Nat → Int32) → (Nat → Int32) → Int32 → (Nat → Int32) → (Nat → Int32) → (Nat → Int32) → (Nat → Int64) → Int32 → Int32 → (Nat → Int32) → Int32 → Int32 → (Nat → Int32) → Int32 → Int32 → (Nat → Int32) → Int32 → Int32 → Int32 → Int32 → Int32 → Int64 → Int64 → Int64 → Int64 → Int32 → Int32 → (Nat → XS) → Int32 → Int32 → Option (Int32 ⊕ Unit)}
/-- what the trail says of its latest entry -/
theorem last_x (h : PRc E dn t1 t2 Asz Anu Aba Amo Aco Hsz Hla Hce Bsz Bla Bce Tma Tlc Ttc day lim low hig thr off cre rcp pay ee mm qq hh bb) (hE : E ≤ 41000) (h1 : 1 ≤ E) : fX6_keeps Tma (nI E) = some 1 ∧ (∀ k, k < 6 → fX6_get Tma Ttc (nI E) (nI k) = some (ee (6 * (E % 10) + k))) ∧ fX6_get Tma Ttc (nI E) 6 = some 0 := by
  obtain ⟨k1, k2, k3, k4, k5, k6, k7, k8, ⟨w1, w2, w3, w4, w5, w6⟩, k10⟩ := h
  have kp := keeps_1 (E := E) (e := E) (by omega) h1 (Nat.le_refl _) (by omega)
  refine ⟨by rw [w1]; exact kp, fun k hk => ?_, ?_⟩
  · rw [w1, X6_get h1 (Nat.le_refl _) (by omega) (by omega) (by omega) Ttc kp, w5 E k h1 (Nat.le_refl _) (by omega) hk]
  · have g : fX6_get (nI E) Ttc (nI E) 6 = _ := X6_get (k := 6) h1 (Nat.le_refl _) (by omega) (by omega) (by omega) Ttc kp
    rw [w1, g, (w6 h1).1]
theorem rev_tail (h : PRc E dn t1 t2 Asz Anu Aba Amo Aco Hsz Hla Hce Bsz Bla Bce Tma Tlc Ttc day lim low hig thr off cre rcp pay ee mm qq hh bb) (hE : E ≤ 40000) (hdn : dn ≤ 2800) (h1 : 1 ≤ E) {Aba2 : Nat → Int32} {mm2 : Nat → Int64} (u : CLB Asz Anu Aba2 Amo mm2 qq) (u24 : mm2 24 = mm 24) {c s : Nat} (hc : c < 7) (hpc : pq qq c = true) (hs : s < 7) (hps : s = 0 ∨ pq qq s = true) {a : Int32} (ha : 0 ≤ a.toInt ∧ a.toInt ≤ 1000000000) :
    ∃ Amo' Tlc' Ttc' ee' mm' qq', (∀ (rcp0 pay0 : Int64), fX5_reverseEntry_J246 Asz Anu Aba2 Amo Hsz Hce Tma Tlc Ttc day rcp0 pay0 (nI E) (nI c) (nI s) a = some (nI (E + 1), Aba2, Amo', nI (E + 1), Tlc', Ttc', rcp0, pay0)) ∧ fL_enter ee mm2 qq 6 (nI c) (nI s) a = some (ee', mm', qq') ∧ CLB Asz Anu Aba2 Amo' mm' qq' ∧ TRB (E + 1) (nI (E + 1)) Tlc' Ttc' mm' qq' ee' ∧ pq qq' = pq qq ∧ (∀ j, j ≠ 24 → mm' j = mm2 j) ∧ (∀ j, j ≠ 5 → j < 10 → qq' j = qq j) ∧ Ttc' (E % 24 * 7 + 6) = 1 ∧ Ttc' (E % 24 * 7 + 1) = ee (6 * (E % 10) + 1) := by
  have lx := last_x h (by omega) h1
  obtain ⟨k1, k2, k3, k4, k5, k6, k7, k8, ⟨w1, w2, w3, w4, w5, w6⟩, ⟨s1, s2, s3, s4⟩, -⟩ := h
  have hn := pq_ne k1 hc hpc
  have t5 : TR5 E Tma Tlc (upd Ttc (E % 24 * 7 + 6) 1) mm2 qq ee := ⟨w1, w2, by rw [u24]; exact w3, w4, fun m k m1 m2 m3 hk => by
    rw [upd_n (by omega)]; exact w5 m k m1 m2 m3 hk⟩
  obtain ⟨Amo', Tlc', Ttc', ee', mm', qq', e1, e2, e3, e4, e5, e6, e7, e8⟩ := enter_c (k := nI 6) u t5 (by omega) ⟨s1, s2, by omega⟩ hc hpc hs hps (by decide) ha ⟨by decide, ⟨c, hn.1, hn.2, rfl⟩, fun e => absurd e (by decide), fun e => absurd e (by decide), fun e => absurd e (by decide)⟩
  refine ⟨Amo', Tlc', Ttc', ee', mm', qq', fun rcp0 pay0 => ?_, e2, e3, e4, e5, e6, e7, ?_, ?_⟩
  · unfold fX5_reverseEntry_J246 fX6_markReversed
    have g : fX6_set Ttc (nI E) 6 1 = _ := X6_set (e := E) (k := 6) (by omega) (by omega) Ttc 1
    have e1 : fX5_enter Asz Anu Amo Tma Tlc (upd Ttc (E % 24 * 7 + 6) 1) day 6 (nI c) (nI s) a = _ := e1
    rw [lx.1, bd1_s, if_neg (by decide), g, bd1_s, bd1_s, e1, bd4_s]
  · rw [e8 _ (by omega), upd_s]
  · rw [e8 _ (by omega), upd_n (by omega), w5 E 1 h1 (Nat.le_refl _) (by omega) (by omega)]
/-- the entry can't be reversed once more -/
theorem rev_twice {rcp0 pay0 : Int64} (hE : E ≤ 40000) (h1 : 1 ≤ E) {Ttc0 ee0 : Nat → Int32} {K : Int32} (t : TRB (E + 1) (nI (E + 1)) Tlc Ttc0 mm qq ee0) (f : Ttc0 (E % 24 * 7 + 6) = 1) (hK : Ttc0 (E % 24 * 7 + 1) = K) (hK3 : K.toInt ≤ 3) : fX7_entry (nI (E + 1)) Ttc0 (nI E) 6 = some 1 ∧ fX5_reverseEntry Asz Anu Aba Amo Hsz Hce (nI (E + 1)) Tlc Ttc0 day rcp0 pay0 (nI E) = some (-3, Aba, Amo, nI (E + 1), Tlc, Ttc0, rcp0, pay0) := by
  have kp := keeps_1 (E := E + 1) (e := E) (by omega) h1 (by omega) (by omega)
  have g6 : fX6_get (nI (E + 1)) Ttc0 (nI E) 6 = _ := X6_get (k := 6) h1 (by omega) (by omega) (by omega) (by omega) Ttc0 kp
  have g1 : fX6_get (nI (E + 1)) Ttc0 (nI E) 1 = _ := X6_get (k := 1) h1 (by omega) (by omega) (by omega) (by omega) Ttc0 kp
  rw [f] at g6
  rw [hK] at g1
  refine ⟨?_, ?_⟩
  · unfold fX7_entry
    rw [kp, bd1_s, if_neg (by decide), if_neg (by decide), if_pos (by decide), g6, bd1_s]
  · unfold fX5_reverseEntry
    rw [kp, bd1_s, if_neg (by decide), g1, bd1_s, if_neg (by rw [lt_i]; have : (3 : Int32).toInt = 3 := rfl; omega), g6, bd1_s, if_neg (by decide)]
    rfl
/-- refused: nothing can be moved -/
theorem rev_no (hr : HR rec n) (hn : n < 40) (h : PRc E dn t1 t2 Asz Anu Aba Amo Aco Hsz Hla Hce Bsz Bla Bce Tma Tlc Ttc day lim low hig thr off cre rcp pay ee mm qq hh bb) (hs : HSB nx) (hE : E ≤ 1000 * n) (hdn : dn ≤ 70 * n) (scL : Nat) (scx : Nat → Int32) (Ksz : Int32) (Kcl : Nat → Int32) (Kke : Nat → Int32) (z7 z10 : Int32) {f t m : Nat} (ht : t < 10) (hm : m < 10) (e : fX5_reverseEntry Asz Anu Aba Amo Hsz Hce Tma Tlc Ttc day rcp pay (nI E) = some (-3, Aba, Amo, Tma, Tlc, Ttc, rcp, pay)) : fL_law_J1934 scL scx ee mm qq hh bb Ksz Kcl Kke Asz Anu Aba Amo Aco Hsz Hla Hce Bsz Bla Bce Tma Tlc Ttc day lim low hig thr off cre rcp pay sv nx SL z7 (nI n) z10 (nI (6 * m)) (nI f) (nI t) 0 rec = some (.inr ()) := by
  obtain ⟨SL', q1⟩ := prep_b Asz Anu Aba Amo Aco Hsz Hla Hce Bsz Bla Bce Tma Tlc Ttc day lim low hig thr off cre rcp pay hs SL
  have e5 := h.2.2.2.2.2.2.2.2.1.2.1
  have e7 : fX7_reverse Asz Anu Aba Amo Aco Hsz Hla Hce Bsz Bla Bce Tma Tlc Ttc day lim low hig thr off cre rcp pay sv nx SL (nI E) = some (-3, Aba, Amo, Tma, Tlc, Ttc, rcp, pay, sv, nx, SL') := by
    unfold fX7_reverse
    rw [q1, bd1_s, e, bd8_s, kept_neg (by decide), bd3_s]
  have k5 : ∀ {β : Type} (k : Option β), ckI 5 18 k = k := fun k => ckI_ok (i := 5) (by omega) (by omega)
  have z5 : (5 : Int32).toNatClampNeg = 5 := rfl
  have g : ∀ room : Int32, fL_law_J1966 scL scx ee mm qq hh bb Ksz Kcl Kke Asz Anu Aba Amo Aco Hsz Hla Hce Bsz Bla Bce Tma Tlc Ttc day lim low hig thr off cre rcp pay sv nx SL z7 (nI n) z10 (nI (6 * m)) (nI f) (nI t) 0 room rec = some (.inr ()) := fun room => by
    unfold fL_law_J1966
    rw [k5, z5, e5, e7, bd11_s, if_pos rfl]
    unfold fL_law_J2000
    rw [if_pos rfl, if_pos rfl]
    exact skip_ok hr hn ⟨⟨E, dn, t1, t2, h, hE, hdn⟩, hs, by omega⟩ Ksz Kcl Kke z7
  unfold fL_law_J1934
  rw [kc25 (by omega), kb4 hm]
  split
  · exact g _
  · split
    · exact g _
    · exact g _
/-- refused for want of room -/
theorem rev_full (hr : HR rec n) (hn : n < 40) (h : PRc E dn t1 t2 Asz Anu Aba Amo Aco Hsz Hla Hce Bsz Bla Bce Tma Tlc Ttc day lim low hig thr off cre rcp pay ee mm qq hh bb) (hs : HSB nx) (hE : E ≤ 1000 * n) (hdn : dn ≤ 70 * n) (scL : Nat) (scx : Nat → Int32) (Ksz : Int32) (Kcl : Nat → Int32) (Kke : Nat → Int32) (z7 z10 : Int32) {f t m : Nat} (e : fX5_reverseEntry Asz Anu Aba Amo Hsz Hce Tma Tlc Ttc day rcp pay (nI E) = some (-4, Aba, Amo, Tma, Tlc, Ttc, rcp, pay)) : fL_law_J1966 scL scx ee mm qq hh bb Ksz Kcl Kke Asz Anu Aba Amo Aco Hsz Hla Hce Bsz Bla Bce Tma Tlc Ttc day lim low hig thr off cre rcp pay sv nx SL z7 (nI n) z10 (nI (6 * m)) (nI f) (nI t) 1 0 rec = some (.inr ()) := by
  obtain ⟨SL', q1⟩ := prep_b Asz Anu Aba Amo Aco Hsz Hla Hce Bsz Bla Bce Tma Tlc Ttc day lim low hig thr off cre rcp pay hs SL
  have e5 := h.2.2.2.2.2.2.2.2.1.2.1
  have e7 : fX7_reverse Asz Anu Aba Amo Aco Hsz Hla Hce Bsz Bla Bce Tma Tlc Ttc day lim low hig thr off cre rcp pay sv nx SL (nI E) = some (-4, Aba, Amo, Tma, Tlc, Ttc, rcp, pay, sv, nx, SL') := by
    unfold fX7_reverse
    rw [q1, bd1_s, e, bd8_s, kept_neg (by decide), bd3_s]
  have k5 : ∀ {β : Type} (k : Option β), ckI 5 18 k = k := fun k => ckI_ok (i := 5) (by omega) (by omega)
  have z5 : (5 : Int32).toNatClampNeg = 5 := rfl
  unfold fL_law_J1966
  rw [k5, z5, e5, e7, bd11_s, if_neg (by decide), if_pos rfl]
  unfold fL_law_J2000
  rw [if_pos rfl, if_neg (by decide), if_pos rfl]
  exact skip_ok hr hn ⟨⟨E, dn, t1, t2, h, hE, hdn⟩, hs, by omega⟩ Ksz Kcl Kke z7
/-- the last steps, behind both movements -/
theorem rev_yes (hr : HR rec n) (hn : n < 40) (h : PRc E dn t1 t2 Asz Anu Aba Amo Aco Hsz Hla Hce Bsz Bla Bce Tma Tlc Ttc day lim low hig thr off cre rcp pay ee mm qq hh bb) (hs : HSB nx) (hE : E ≤ 1000 * n) (hdn : dn ≤ 70 * n) (h1 : 1 ≤ E) (scL : Nat) (scx : Nat → Int32) (Ksz : Int32) (Kcl : Nat → Int32) (Kke : Nat → Int32) (z7 z10 : Int32) {f t : Nat} {Aba' Amo' Ttc' : Nat → Int32} {Tlc' : Int32} {rcp' pay' : Int64} {ee' qq' : Nat → Int32} {mm1 mm2 mm' : Nat → Int64} {c s : Nat} {K a : Int32}
    (e : fX5_reverseEntry Asz Anu Aba Amo Hsz Hce Tma Tlc Ttc day rcp pay (nI E) = some (nI (E + 1), Aba', Amo', nI (E + 1), Tlc', Ttc', rcp', pay'))
    (k1 : ee (6 * (E % 10) + 1) = K) (hK : K.toInt ≤ 3) (k2 : ee (6 * (E % 10) + 2) = nI c) (k3 : ee (6 * (E % 10) + 3) = nI s) (k4 : ee (6 * (E % 10) + 4) = a)
    (m1 : mm1 = (if nI f ≤ 0 then mm else vp_updL mm f (mm f - a.toInt64))) (hf : f < 10) (ht : t < 10)
    (m2 : mm2 = vp_updL (vp_updL (if nI t ≤ 0 then mm1 else vp_updL mm1 t (mm1 t + a.toInt64)) 22 ((if nI t ≤ 0 then mm1 else vp_updL mm1 t (mm1 t + a.toInt64)) 22 - (if K = 1 then a.toInt64 else 0))) 23 (vp_updL (if nI t ≤ 0 then mm1 else vp_updL mm1 t (mm1 t + a.toInt64)) 22 ((if nI t ≤ 0 then mm1 else vp_updL mm1 t (mm1 t + a.toInt64)) 22 - (if K = 1 then a.toInt64 else 0)) 23 - (if K = 2 then a.toInt64 else 0)))
    (en : fL_enter ee mm2 qq 6 (nI c) (nI s) a = some (ee', mm', qq')) (fl : Ttc' (E % 24 * 7 + 6) = 1) (hP : PRc (E + 1) dn t1 t2 Asz Anu Aba' Amo' Aco Hsz Hla Hce Bsz Bla Bce (nI (E + 1)) Tlc' Ttc' day lim low hig thr off cre rcp' pay' ee' mm' qq' hh bb) (ek : Ttc' (E % 24 * 7 + 1) = K) : fL_law_J1966 scL scx ee mm qq hh bb Ksz Kcl Kke Asz Anu Aba Amo Aco Hsz Hla Hce Bsz Bla Bce Tma Tlc Ttc day lim low hig thr off cre rcp pay sv nx SL z7 (nI n) z10 (nI (6 * (E % 10))) (nI f) (nI t) 1 1 rec = some (.inr ()) := by
  obtain ⟨SL', q1⟩ := prep_b Asz Anu Aba Amo Aco Hsz Hla Hce Bsz Bla Bce Tma Tlc Ttc day lim low hig thr off cre rcp pay hs SL
  obtain ⟨sv', nx', q2, q3⟩ := keep_b (sv := sv) hs
  have e5 := h.2.2.2.2.2.2.2.2.1.2.1
  have hm : E % 10 < 10 := Nat.mod_lt _ (by omega)
  have e7 : fX7_reverse Asz Anu Aba Amo Aco Hsz Hla Hce Bsz Bla Bce Tma Tlc Ttc day lim low hig thr off cre rcp pay sv nx SL (nI E) = some (nI (E + 1), Aba', Amo', nI (E + 1), Tlc', Ttc', rcp', pay', sv', nx', SL') := by
    unfold fX7_reverse
    rw [q1, bd1_s, e, bd8_s, kept_pos (nI_nn (by omega)) q2, bd3_s]
  have tw := rev_twice (Asz := Asz) (Anu := Anu) (Aba := Aba') (Amo := Amo') (Hsz := Hsz) (Hce := Hce) (day := day) (rcp0 := rcp') (pay0 := pay') (by omega) h1 hP.2.2.2.2.2.2.2.2.1 fl ek hK
  obtain ⟨SL2, q4⟩ := prep_b Asz Anu Aba' Amo' Aco Hsz Hla Hce Bsz Bla Bce (nI (E + 1)) Tlc' Ttc' day lim low hig thr off cre rcp' pay' q3 SL'
  have e8 : fX7_reverse Asz Anu Aba' Amo' Aco Hsz Hla Hce Bsz Bla Bce (nI (E + 1)) Tlc' Ttc' day lim low hig thr off cre rcp' pay' sv' nx' SL' (nI E) = some (-3, Aba', Amo', nI (E + 1), Tlc', Ttc', rcp', pay', sv', nx', SL2) := by
    unfold fX7_reverse
    rw [q4, bd1_s, tw.2, bd8_s, kept_neg (by decide), bd3_s]
  have k5 : ∀ {β : Type} (k : Option β), ckI 5 18 k = k := fun k => ckI_ok (i := 5) (by omega) (by omega)
  have z5 : (5 : Int32).toNatClampNeg = 5 := rfl
  have k22 : ∀ {β : Type} (k : Option β), ckI 22 25 k = k := fun k => kc25 (c := 22) (by omega) k
  have z22 : (22 : Int32).toNatClampNeg = 22 := rfl
  have k23 : ∀ {β : Type} (k : Option β), ckI 23 25 k = k := fun k => kc25 (c := 23) (by omega) k
  have z23 : (23 : Int32).toNatClampNeg = 23 := rfl
  unfold fL_law_J1966
  rw [k5, z5, e5, e7, bd11_s, if_neg (by decide), if_neg (by decide), k5, nI_1]
  unfold fL_law_J2000
  rw [if_pos rfl, if_neg (by decide), if_neg (by decide), kb4 hm, lts, cb4 hm, k4]
  -- behind the movements
  have last : ∀ mmx : Nat → Int64, mm2 = vp_updL (vp_updL mmx 22 (mmx 22 - (if K = 1 then a.toInt64 else 0))) 23 (vp_updL mmx 22 (mmx 22 - (if K = 1 then a.toInt64 else 0)) 23 - (if K = 2 then a.toInt64 else 0)) → fL_law_J2057 scL scx ee mmx qq hh bb Ksz Kcl Kke Asz Anu Aba' Amo' Aco Hsz Hla Hce Bsz Bla Bce (nI (E + 1)) Tlc' Ttc' day lim low hig thr off cre rcp' pay' sv' nx' SL' (nI n) z10 (nI (6 * (E % 10))) a rec = some (.inr ()) := by
    intro mmx em
    have l2105 : fL_law_J2105 scL scx ee (vp_updL mmx 22 (mmx 22 - (if K = 1 then a.toInt64 else 0))) qq hh bb Ksz Kcl Kke Asz Anu Aba' Amo' Aco Hsz Hla Hce Bsz Bla Bce (nI (E + 1)) Tlc' Ttc' day lim low hig thr off cre rcp' pay' sv' nx' SL' (nI n) z10 (nI (6 * (E % 10))) a (if K = 2 then a.toInt64 else 0) (vp_updL mmx 22 (mmx 22 - (if K = 1 then a.toInt64 else 0)) 23) 23 rec = some (.inr ()) := by
      unfold fL_law_J2105
      rw [k23, lts, z23, ← em, k5, z5, e5, tw.1, bd1_s, if_pos rfl, k5, e8, bd11_s, if_pos rfl, kb2 hm, kb3 hm, cb2 hm, cb3 hm, k2, k3, en, bd3_s, k5, lts]
      exact fin_ok hr hn hP (by omega) (by omega) q3 scL scx Ksz Kcl Kke _ z10
    have l2080 : fL_law_J2080 scL scx ee mmx qq hh bb Ksz Kcl Kke Asz Anu Aba' Amo' Aco Hsz Hla Hce Bsz Bla Bce (nI (E + 1)) Tlc' Ttc' day lim low hig thr off cre rcp' pay' sv' nx' SL' (nI n) z10 (nI (6 * (E % 10))) a (if K = 1 then a.toInt64 else 0) (mmx 22) 22 rec = some (.inr ()) := by
      unfold fL_law_J2080
      rw [k22, lts, z22, k23, kb1 hm, cb1 hm, k1, z23]
      by_cases w : K = 2
      · rw [if_pos w] at l2105 ⊢
        exact l2105
      · rw [if_neg w] at l2105 ⊢
        exact l2105
    unfold fL_law_J2057
    rw [k22, kb1 hm, cb1 hm, k1, z22]
    by_cases w : K = 1
    · rw [if_pos w] at l2080 ⊢
      exact l2080
    · rw [if_neg w] at l2080 ⊢
      exact l2080
  have cf : (nI f).toNatClampNeg = f := nI_clamp (by omega)
  have ct : (nI t).toNatClampNeg = t := nI_clamp (by omega)
  have kf : ∀ {β : Type} (k : Option β), ckI (nI f) 25 k = k := fun k => kc25 (by omega) k
  have kt : ∀ {β : Type} (k : Option β), ckI (nI t) 25 k = k := fun k => kc25 (by omega) k
  have mid : fL_law_J2042 scL scx ee mm1 qq hh bb Ksz Kcl Kke Asz Anu Aba' Amo' Aco Hsz Hla Hce Bsz Bla Bce (nI (E + 1)) Tlc' Ttc' day lim low hig thr off cre rcp' pay' sv' nx' SL' (nI n) z10 (nI (6 * (E % 10))) (nI t) a rec = some (.inr ()) := by
    unfold fL_law_J2042
    by_cases w : nI t ≤ 0
    · rw [if_pos w]
      rw [if_pos w] at m2
      exact last _ m2
    · rw [if_neg w, kt, kt, lts, ct]
      rw [if_neg w] at m2
      exact last _ m2
  by_cases w : nI f ≤ 0
  · rw [if_pos w]
    rw [if_pos w] at m1
    rw [m1] at mid
    exact mid
  · rw [if_neg w, kf, kf, lts, cf]
    rw [if_neg w] at m1
    rw [m1] at mid
    exact mid
end CRE
