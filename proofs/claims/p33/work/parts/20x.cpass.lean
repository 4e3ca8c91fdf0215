/-! the law's act: days pass -/
theorem RWB_ext {sz la : Int32} {ce hh hh' : Nat → Int32} {top : Nat} (h : RWB sz la ce hh top) (e : ∀ k, k < 20 → hh' (3 * k) = hh (3 * k) ∧ hh' (3 * k + 1) = hh (3 * k + 1) ∧ hh' (3 * k + 2) = hh (3 * k + 2)) : RWB sz la ce hh' top := by
  have pk : ∀ k, k < 20 → pw hh' k = pw hh k := fun k hk => by unfold pw; rw [(e k hk).1]
  have rke : ∀ n, n ≤ 20 → rk (pw hh') n = rk (pw hh) n := fun n hn => rk_cong n (fun k hk => pk k (by omega))
  obtain ⟨h1, h2, h3, h4, h5⟩ := h
  refine ⟨by rw [rke 20 (Nat.le_refl _)]; exact h1, by rw [rke 20 (Nat.le_refl _)]; exact h2, h3, h4, fun k hk hp => ?_⟩
  obtain ⟨e1, e2, e3⟩ := e k hk
  rw [rke k (by omega), e1, e2, e3]
  exact h5 k hk (by rw [← pk k hk]; exact hp)
theorem sumC_mono {P : Nat → Bool} {a b : Nat → Int64} : ∀ n, n ≤ 7 → (∀ c, c < n → P c = true → 0 ≤ (a c).toInt ∧ (a c).toInt ≤ (b c).toInt ∧ (b c).toInt ≤ 1000000000) → 0 ≤ (sumC P a n).toInt ∧ (sumC P a n).toInt ≤ (sumC P b n).toInt ∧ (sumC P b n).toInt ≤ 1000000000 * n
  | 0, _, _ => ⟨Int.le_refl _, Int.le_refl _, Int.le_refl _⟩
  | n + 1, hn, h => by
    obtain ⟨h1, h2, h3⟩ := sumC_mono (P := P) n (by omega) (fun c hc => h c (by omega))
    rw [sumC_s, sumC_s]
    cases hp : P n with
    | false =>
      rw [if_neg (by decide), if_neg (by decide)]
      exact ⟨h1, h2, by omega⟩
    | true =>
      obtain ⟨g1, g2, g3⟩ := h n (Nat.lt_succ_self _) hp
      rw [if_pos rfl, if_pos rfl, add64 (by omega) (by omega), add64 (by omega) (by omega)]
      exact ⟨by omega, by omega, by omega⟩
section CPS
variable {n E dn t1 t2 : Nat} {Asz : Int32} {Anu : Nat → Int32} {Aba : Nat → Int32} {Amo : Nat → Int32} {Aco : Nat → Int64} {Hsz : Int32} {Hla : Int32} {Hce : Nat → Int32} {Bsz : Int32} {Bla : Int32} {Bce : Nat → Int32} {Tma : Int32} {Tlc : Int32} {Ttc : Nat → Int32} {day : Int32} {lim : Int32} {low : Int32} {hig : Int32} {thr : Int32} {off : Int64} {cre : Int64} {rcp : Int64} {pay : Int64} {ee : Nat → Int32} {mm : Nat → Int64} {qq : Nat → Int32} {hh : Nat → Int32} {bb : Nat → Int32} {sv : Int32} {nx : Int32} {SL : Nat → XS} {rec : (Nat → Int32) → (Nat → Int64) → (Nat → Int32) → (Nat → Int32) → (Nat → Int32) → Int32 → (Nat → Int32) → (Nat → Int32) → Int32 → (Nat → Int32) → (Nat → Int32) → (Nat → Int32) → (Nat → Int64) → Int32 → Int32 → (Nat → Int32) → Int32 → Int32 → (Nat → Int32) → Int32 → Int32 → (Nat → Int32) → Int32 → Int32 → Int32 → Int32 → Int32 → Int64 → Int64 → Int64 → Int64 → Int32 → Int32 → (Nat → XS) → Int32 → Int32 → Option (Int32 ⊕ Unit)}
theorem i64_ps {a b c d e s : Int64} (h : a + b + c = d + e) : a + s + b + c = d + s + e := by grind
theorem i64_sb {a b s : Int64} (h : b = a + s) : s = b - a := by grind
theorem i64_as (a s : Int64) : a + s - a = s := by grind
theorem pass_x (h : PRc E dn t1 t2 Asz Anu Aba Amo Aco Hsz Hla Hce Bsz Bla Bce Tma Tlc Ttc day lim low hig thr off cre rcp pay ee mm qq hh bb) (hE : E ≤ 40000) (hdn : dn ≤ 2800) {p : Nat} (hp1 : 1 ≤ p) (hp2 : p ≤ 70) :
    ∃ E' s Aba' Amo' Aco' Hsz' Hce' T2 T3 ee' mm' qq' hh', fX5_letPass Asz Anu Aba Amo Aco Hsz Hce Tma Tlc Ttc day lim low hig thr cre (nI p) = some (s, Aba', Amo', Aco', Hsz', Hce', nI E', T2, T3, nI (dn + p), cre + s) ∧ fL_pass ee mm qq hh (nI p) = some (s, ee', mm', qq', hh') ∧ 0 ≤ s.toInt ∧ E' ≤ E + 490 ∧ PRc E' (dn + p) t1 t2 Asz Anu Aba' Amo' Aco' Hsz' Hla Hce' Bsz Bla Bce (nI E') T2 T3 (nI (dn + p)) lim low hig thr off (cre + s) rcp pay ee' mm' qq' hh' bb := by
  obtain ⟨k1, k2, k3, k4, k5, k6, k7, k8, k9, k10⟩ := h
  obtain ⟨⟨s1, s2, s3, s4⟩, s5, s6, s7, s8⟩ := k10
  have hm : dn % 30 < 30 := Nat.mod_lt _ (by omega)
  obtain ⟨Aba', Amo', Acx', Acv', T2, T3, cre', D0', E', ee', mm', qq', hh', s, x1, x2, x3, x4, x5, x6, x7, x8, x9, x10, x11, x12, x13, x14, x15, x16, x17⟩ := pass_b (t := dn + p) (d0 := dn) (P := pq qq) s7 (by omega) cre p dn dn E (dn - dn % 30 + 30) 2147483648 2147483648 Aba Amo Aco Aco Tma Tlc Ttc cre ee mm qq hh 0 rfl rfl (Nat.le_refl _) (Nat.le_refl _) (by omega) (by omega) (by omega) (by omega) (by omega) (by omega) ⟨s2, s5⟩ k1 k2 k3 k9 (fun c _ _ => by rw [gap0]) (fun k hk => ⟨(k5 k hk).1, k6.1 k hk⟩)
  rw [Nat.add_sub_cancel_left, Nat.sub_self] at x2
  have x2 : fL_pass_L6 (nI p) 2147483648 ee mm qq hh 0 0 = _ := x2
  obtain ⟨Acg, g1, g2⟩ := grow_i (C := rk (pq qq) 7) (rk7 _) Aba' Acx' (nI D0') lim low hig (nI (dn + p))
  obtain ⟨Hsz', Hce', hh2, e1, e2, e3⟩ := endh_L (nI (dn + p)) 20 2147483648 Hsz Hce hh (Nat.le_refl _) (by have := rk_bd (pw hh) 20; omega) k4 (fun k hk => (k5 k hk).1)
  have z0 : (0 : Int64) + s = s := Int64.zero_add s
  have z0b : (0 : Int32).toInt64 + s = s := by rw [z64]; exact z0
  have bm : ∀ c, c < 7 → pq qq c = true → 0 ≤ (mm c).toInt ∧ (mm c).toInt ≤ (mm' c).toInt ∧ (mm' c).toInt ≤ 1000000000 := fun c hc hpc => ⟨(k3 c hc hpc).1, x16 c hc hpc, (x10 c hc (by rw [x5]; exact hpc)).2.1⟩
  have hs0 : 0 ≤ s.toInt := by
    obtain ⟨b1, b2, b3⟩ := sumC_mono 7 (Nat.le_refl _) bm
    have e := i64_sb x17
    rw [e, sub64 (by omega) (by omega)]
    omega
  have hm6 : ∀ j, 17 ≤ j → j < 24 → j ≠ 21 → vp_updL mm' 21 (mm' 21 + s) j = mm j := fun j a b c => by rw [updL_n (by omega)]; exact x14 j a b
  have hm7 : ∀ j, j < 17 → vp_updL mm' 21 (mm' 21 + s) j = mm' j := fun j a => updL_n (by omega)
  have hk3 : ∀ k, k < 20 → hh2 (3 * k) = hh' (3 * k) ∧ hh2 (3 * k + 1) = hh' (3 * k + 1) ∧ hh2 (3 * k + 2) = hh' (3 * k + 2) := fun k hk => by
    obtain ⟨f1, f2, f3⟩ := e3 k hk
    obtain ⟨f4, f5, f6⟩ := x13 k hk
    rw [f1, f2, f3, f4, f5, f6]
    refine ⟨?_, rfl, rfl⟩
    by_cases v : hh (3 * k + 2) < nI (dn + p)
    · rw [if_pos v, if_pos ⟨hk, v⟩]
    · rw [if_neg v, if_neg (fun z => v z.2)]
  have pold : ∀ k, k < 20 → pw hh' k = true → pw hh k = true ∧ hh' (3 * k) = hh (3 * k) ∧ ¬ hh (3 * k + 2) < nI (dn + p) := fun k hk hpk => by
    obtain ⟨f4, f5, f6⟩ := x13 k hk
    have w := pw_t hpk
    by_cases v : hh (3 * k + 2) < nI (dn + p)
    · rw [f4, if_pos v, toInt_0] at w; omega
    · rw [if_neg v] at f4
      rw [f4] at w
      exact ⟨decide_eq_true w, f4, v⟩
  refine ⟨E', s, Aba', Amo', Acg, Hsz', Hce', T2, T3, ee', vp_updL mm' 21 (mm' 21 + s), qq', hh', ?_, ?_, hs0, by omega, CLB_ext x8 (fun c hc => hm7 c (by omega)), ?_, CIB_ext x10 (fun c hc => ⟨hm7 c (by omega), hm7 (10 + c) (by omega)⟩), RWB_ext e2 (fun k hk => ⟨(hk3 k hk).1.symm, (hk3 k hk).2.1.symm, (hk3 k hk).2.2.symm⟩), fun k hk => ?_, ⟨fun k hk hpk => ?_, fun c hc hpc => ?_⟩, k7, fun k hk => ?_, ?_, ⟨⟨rfl, x7.1, by rw [x15 6 (by omega) (by omega) (by omega)]; exact s3, by rw [x15 7 (by omega) (by omega) (by omega)]; exact s4⟩, x7.2, ⟨?_, ?_, ?_, ?_⟩, s7, ?_⟩⟩
  · unfold fX5_letPass
    rw [if_neg (show ¬ nI p < 1 by rw [lt_i, nI_toInt (by omega), toInt_1]; omega), if_pos (show nI p ≤ (400 : Int32) from nI_le (b := 400) (by omega) (by omega)), lts, s1, show nI dn + nI p = nI (dn + p) from nI_add _ p, if_pos (show nI (dn + p) ≤ (9999 : Int32) from nI_le (b := 9999) (by omega) (by omega)), nextCredit_i (by omega), bd1_s, x1, bd8_s, k1.1, g1, bd2_s]
    unfold fX5_endHoldsThatAreOver
    have e1 : fX5_endHoldsThatAreOver_L10 (nI (dn + p)) 2147483648 Hsz Hce (Hsz - 1) = some (Hsz', Hce') := by
      have := k4.1
      rw [← this] at e1
      exact e1
    rw [lts, e1, bd2_s, bd2_s, x3, i64_as]
  · unfold fL_pass
    have k0 : ∀ {β : Type} (k : Option β), ckI 21 25 k = k := fun k => ckI_ok (i := 21) (by omega) (by omega)
    rw [x2, bd5_s, k0, k0, lts, z0]
    rfl
  · intro c hc hpc
    have hpc' : pq qq c = true := by rw [← x5]; exact hpc
    have w := x9 c hc hpc
    rw [hm7 (10 + c) (by omega), ← w, x5, g2, if_pos (rk_lt hpc' hc)]
    exact (x12 c hc hpc').symm
  · obtain ⟨o1, o2, o3⟩ := k5 k hk
    obtain ⟨f4, f5, f6⟩ := x13 k hk
    refine ⟨?_, by rw [f5]; exact o2, fun q => ?_⟩
    · rw [f4]
      by_cases v : hh (3 * k + 2) < nI (dn + p)
      · rw [if_pos v, toInt_0]; exact Int.le_refl _
      · rw [if_neg v]; exact o1
    · obtain ⟨q1, q2, q3⟩ := pold k hk q
      rw [f5, q2, x5]
      exact o3 q1
  · obtain ⟨q1, q2, q3⟩ := pold k hk hpk
    rw [(x13 k hk).2.2]
    rw [lt_i, nI_toInt (by omega)] at q3
    omega
  · have hpc' : pq qq c = true := by rw [← x5]; exact hpc
    have hne := pq_ne k1 hc hpc'
    have w := k6.2 c hc hpc'
    rw [hm7 c (by omega)]
    have a1 : hz hh' c = sumZ (fun k => decide (hh' (3 * k) = nI c)) (fun k => hh (3 * k + 1)) 20 := sumZ_cong 20 (fun k hk => ⟨rfl, fun _ => (x13 k hk).2.1⟩)
    have a2 : sumZ (fun k => decide (hh' (3 * k) = nI c)) (fun k => hh (3 * k + 1)) 20 ≤ hz hh c := sumZ_le (t := fun k => decide (hh (3 * k) = nI c)) 20 (fun k hk => ⟨(k5 k hk).2.1.1, fun q => by
      have q := of_decide_eq_true q
      have q1 : pw hh' k = true := decide_eq_true (by rw [q, nI_toInt (by omega)]; omega)
      rw [(pold k hk q1).2.1] at q
      exact decide_eq_true q⟩)
    have := x16 c hc hpc'
    omega
  · rw [x5]; exact k8 k hk
  · obtain ⟨w1, w2, w3, w4⟩ := x11
    exact ⟨w1, w2, by rw [updL_n (by omega)]; exact w3, w4⟩
  · rw [hm6 20 (by omega) (by omega) (by omega)]; exact s6.1
  · rw [updL_s, x14 21 (by omega) (by omega), s6.2.1]
  · rw [hm6 22 (by omega) (by omega) (by omega)]; exact s6.2.2.1
  · rw [hm6 23 (by omega) (by omega) (by omega)]; exact s6.2.2.2
  · rw [x5, sumC_cong 7 (fun i hi => ⟨rfl, fun _ => hm7 i (by omega)⟩), x17, hm6 20 (by omega) (by omega) (by omega), hm6 23 (by omega) (by omega) (by omega), hm6 22 (by omega) (by omega) (by omega), updL_s, x14 21 (by omega) (by omega)]
    exact i64_ps s8
theorem pass_1 (hr : HR rec n) (hn : n < 40) (h : PR n Asz Anu Aba Amo Aco Hsz Hla Hce Bsz Bla Bce Tma Tlc Ttc day lim low hig thr off cre rcp pay ee mm qq hh bb sv nx SL) (scL : Nat) (scx : Nat → Int32) (Ksz : Int32) (Kcl : Nat → Int32) (Kke : Nat → Int32) (z7 z10 : Int32) {p : Nat} (hp1 : 1 ≤ p) (hp2 : p ≤ 70) : fL_law_J1596 scL scx ee mm qq hh bb Ksz Kcl Kke Asz Anu Aba Amo Aco Hsz Hla Hce Bsz Bla Bce Tma Tlc Ttc day lim low hig thr off cre rcp pay sv nx SL z7 (nI n) z10 (nI p) rec = some (.inr ()) := by
  obtain ⟨⟨E, dn, t1, t2, h, hE, hdn⟩, hs, -⟩ := h
  obtain ⟨SL', q1⟩ := prep_b Asz Anu Aba Amo Aco Hsz Hla Hce Bsz Bla Bce Tma Tlc Ttc day lim low hig thr off cre rcp pay hs SL
  obtain ⟨sv', nx', q2, q3⟩ := keep_b (sv := sv) hs
  obtain ⟨E', s, Aba', Amo', Aco', Hsz', Hce', T2, T3, ee', mm', qq', hh', y1, y2, y3, y4, y5⟩ := pass_x h (by omega) (by omega) hp1 hp2
  have e7 : fX7_pass Asz Anu Aba Amo Aco Hsz Hla Hce Bsz Bla Bce Tma Tlc Ttc day lim low hig thr off cre rcp pay sv nx SL (nI p) = some (s, Aba', Amo', Aco', Hsz', Hce', nI E', T2, T3, nI (dn + p), cre + s, sv', nx', SL') := by
    unfold fX7_pass
    rw [q1, bd1_s, y1, bd11_s, if_neg (show ¬ s < 0 by rw [lt64]; exact Int.not_lt.mpr y3), q2, bd2_s]
  unfold fL_law_J1596
  rw [e7, bd14_s, y2, bd5_s, if_pos rfl]
  exact fin_ok hr hn y5 (by omega) (by omega) q3 scL scx Ksz Kcl Kke z7 z10
theorem case_pass (hr : HR rec n) (hn : n < 40) (h : PR n Asz Anu Aba Amo Aco Hsz Hla Hce Bsz Bla Bce Tma Tlc Ttc day lim low hig thr off cre rcp pay ee mm qq hh bb sv nx SL) (scL : Nat) (scx : Nat → Int32) (Ksz : Int32) (Kcl : Nat → Int32) (Kke : Nat → Int32) (z7 z10 : Int32) {c : Nat} (hc : 1 ≤ c ∧ c < 6) {z14 : Int32} (hz : (z14 = 1 ∧ pq qq c = true) ∨ (z14 = 0 ∧ pq qq c = false)) {am : Int32} (ha : 1 ≤ am.toInt ∧ am.toInt ≤ 100000000) :
    (bd1 (fL_low z10 70) fun r_223 => lt_ (1 + r_223) fun x16_225 => if z14 = 0 then (bd1 (fX7_interestIn Asz Anu Aba Aco day lim low hig thr (nI c) x16_225) fun r_227 => if r_227 = (-1) then (bd1 (fX7_payableOn Asz Anu Aba Aco Hsz Hce day lim low hig thr (nI c) 1) fun r_230 => if r_230 = (-1) then fL_law_J1596 scL scx ee mm qq hh bb Ksz Kcl Kke Asz Anu Aba Amo Aco Hsz Hla Hce Bsz Bla Bce Tma Tlc Ttc day lim low hig thr off cre rcp pay sv nx SL z7 (nI n) z10 x16_225 rec else some (.inl 0)) else some (.inl 0)) else ckI (nI c) 25 <| lt_ (mm (nI c).toNatClampNeg) fun x19_256 => ckI (10 + nI c) 25 <| lt_ (mm (10 + nI c).toNatClampNeg) fun x21_258 => bd3 (fL_law_L1423 qq hh z7 (nI n) z10 (nI c) am x16_225 x19_256 x21_258 2147483648 mm 0 (-6) 0) fun mm_275 x17_276 x23_277 => ckI (nI c) 25 <| lt_ (vp_updL mm_275 (nI c).toNatClampNeg x19_256) fun mm_279 => ckI (10 + nI c) 25 <| lt_ (vp_updL mm_279 (10 + nI c).toNatClampNeg x21_258) fun mm_281 => bd1 (fX7_interestIn Asz Anu Aba Aco day lim low hig thr (nI c) x16_225) fun r_282 => if r_282.toInt64 = x17_276 then (bd1 (fX7_payableOn Asz Anu Aba Aco Hsz Hce day lim low hig thr (nI c) am) fun r_285 => if r_285 = x23_277 then fL_law_J1596 scL scx ee mm_281 qq hh bb Ksz Kcl Kke Asz Anu Aba Amo Aco Hsz Hla Hce Bsz Bla Bce Tma Tlc Ttc day lim low hig thr off cre rcp pay sv nx SL z7 (nI n) z10 x16_225 rec else some (.inl 0)) else some (.inl 0)) = some (.inr ()) := by
  have h0 := h
  obtain ⟨⟨E, dn, t1, t2, h, hE, hdn⟩, hs, -⟩ := h
  obtain ⟨x, hx, ex⟩ := low_i z10 (n := 70) (by omega) (by omega)
  have ex : fL_low z10 70 = some (nI x) := ex
  have p1 : (1 : Int32) + nI x = nI (1 + x) := nI_add 1 x
  rw [ex, bd1_s, lts, p1]
  rcases hz with ⟨rfl, hp⟩ | ⟨rfl, hp⟩
  · have cc : (nI c).toNatClampNeg = c := nI_clamp (by omega)
    have cc1 : (10 + nI c).toNatClampNeg = 10 + c := by rw [show (10 : Int32) + nI c = nI (10 + c) from nI_add 10 c, nI_clamp (by omega)]
    have kk : ∀ {β : Type} (k : Option β), ckI (nI c) 25 k = k := fun k => kc25 (by omega) k
    have kk1 : ∀ {β : Type} (k : Option β), ckI (10 + nI c) 25 k = k := fun k => by rw [show (10 : Int32) + nI c = nI (10 + c) from nI_add 10 c]; exact ckI_ok (by omega) (by omega)
    obtain ⟨k1, k2, k3, k4, k5, k6, k7, k8, k9, k10⟩ := id h
    obtain ⟨⟨s1, s2, s3, s4⟩, s5, s6, s7, s8⟩ := k10
    obtain ⟨i1, i2, i3, i4⟩ := k3 c (by omega) hp
    obtain ⟨d1, d2⟩ := dn64 (v := mm c) (by omega) (by omega)
    have hb : 0 ≤ (mm c).toInt32.toInt ∧ (mm c).toInt32.toInt ≤ 1000000000 := by rw [d1]; exact ⟨i1, i2⟩
    obtain ⟨m', g1, g2⟩ := l_ahead_L (lim := lim) (low := low) (hig := hig) (thr := thr) (dn := dn) (b := (mm c).toInt32) (t := mm (10 + c)) s7 (by omega) hb ⟨i3, i4⟩ s5 s2 k5 (show 1 ≤ c by omega) (show c < 7 by omega) am z7 (nI n) z10 (mm c) (mm (10 + c)) (p := 1 + x) (by omega) 2147483648 0 mm (by omega) (by omega) d2.symm rfl (fun _ _ _ => rfl)
    have z1 : (acc lim low hig thr dn (mm c).toInt32 (mm (10 + c)) (min (0 - 1) (1 + x))).1.toInt64 - (mm c).toInt32.toInt64 = 0 := by
      rw [show min (0 - 1) (1 + x) = 0 by omega]
      show (mm c).toInt32.toInt64 - (mm c).toInt32.toInt64 = 0
      exact Int64.sub_self _
    rw [z1] at g1
    have g1 : fL_law_L1423 qq hh z7 (nI n) z10 (nI c) am (nI (1 + x)) (mm c) (mm (10 + c)) 2147483648 mm 0 (-6) 0 = _ := g1
    have em : vp_updL (vp_updL m' c (mm c)) (10 + c) (mm (10 + c)) = mm := funext fun j => by
      by_cases w1 : j = 10 + c
      · subst w1; rw [updL_s]
      · by_cases w2 : j = c
        · subst w2; rw [updL_n w1, updL_s]
        · rw [updL_n w1, updL_n w2]; exact g2 j w2 w1
    have ab := (acc_b (lim := lim) (low := low) (hig := hig) (thr := thr) (dn := dn) (b := (mm c).toInt32) (t := mm (10 + c)) s7 (by omega) hb ⟨i3, i4⟩ (1 + x) (by omega)).1
    rw [if_neg (by decide)]
    rw [kk, cc, lts, kk1, cc1, lts, g1, bd3_s, kk, lts, kk1, lts, em, ahead_x h (by omega) (by omega) hp (by omega) (by omega), bd1_s, diff64 ab hb, if_pos rfl, first_x h (by omega) (by omega) hp ha, bd1_s, if_pos rfl]
    exact pass_1 hr hn h0 scL scx Ksz Kcl Kke z7 z10 (by omega) (by omega)
  · have e1 : fX7_interestIn Asz Anu Aba Aco day lim low hig thr (nI c) (nI (1 + x)) = some (-1) := by
      unfold fX7_interestIn
      rw [cl_findn h.1 (by omega) hp, bd1_s, if_neg (by decide)]
    have e2 : fX7_payableOn Asz Anu Aba Aco Hsz Hce day lim low hig thr (nI c) 1 = some (-1) := by
      unfold fX7_payableOn
      rw [cl_findn h.1 (by omega) hp, bd1_s, if_neg (by decide)]
    rw [if_pos rfl, e1, bd1_s, if_pos rfl, e2, bd1_s, if_pos rfl]
    exact pass_1 hr hn h0 scL scx Ksz Kcl Kke z7 z10 (by omega) (by omega)
end CPS
