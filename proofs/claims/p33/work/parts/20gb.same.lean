/-! the law's asks: client after client -/
section SM
variable {E dn t1 t2 : Nat} {Asz : Int32} {Anu : Nat → Int32} {Aba : Nat → Int32} {Amo : Nat → Int32} {Aco : Nat → Int64} {Hsz : Int32} {Hla : Int32} {Hce : Nat → Int32} {Bsz : Int32} {Bla : Int32} {Bce : Nat → Int32} {Tma : Int32} {Tlc : Int32} {Ttc : Nat → Int32} {day : Int32} {lim : Int32} {low : Int32} {hig : Int32} {thr : Int32} {off : Int64} {cre : Int64} {rcp : Int64} {pay : Int64} {ee : Nat → Int32} {mm : Nat → Int64} {qq : Nat → Int32} {hh : Nat → Int32} {bb : Nat → Int32}
/-- the keys of an order -/
def kO (o : Nat) (Aba Amo : Nat → Int32) (F : Nat → Int32) (i : Nat) : Int32 := if o = 1 then -(Aba i) else if o = 2 then F i else if o = 3 then Amo i else 0
theorem key_b (h : PRc E dn t1 t2 Asz Anu Aba Amo Aco Hsz Hla Hce Bsz Bla Bce Tma Tlc Ttc day lim low hig thr off cre rcp pay ee mm qq hh bb) {o : Nat} (ho : o ≤ 3) : ∃ F : Nat → Int32, (∀ c, c < 7 → pq qq c = true → F (rk (pq qq) c) = (mm c).toInt32 - hI hh c) ∧ ∀ i, i < rk (pq qq) 7 → fX3_keyOf (nI (rk (pq qq) 7)) Anu Aba Amo Hsz Hce (nI o) (nI i) = some (kO o Aba Amo F i) := by
  obtain ⟨k1, k2, k3, k4, k5, k6, k7, k8, k9, k10⟩ := h
  have ex : ∀ i, ∃ v, ∀ c, c < 7 → pq qq c = true → rk (pq qq) c = i → v = (mm c).toInt32 - hI hh c := fun i => by
    by_cases w : ∃ c, c < 7 ∧ pq qq c = true ∧ rk (pq qq) c = i
    · obtain ⟨c, h1, h2, h3⟩ := w
      exact ⟨(mm c).toInt32 - hI hh c, fun d g1 g2 g3 => by rw [rk_inj h2 g2 (by rw [h3, g3])]⟩
    · exact ⟨0, fun d g1 g2 g3 => absurd ⟨d, g1, g2, g3⟩ w⟩
  refine ⟨fun i => Classical.choose (ex i), fun c hc hp => Classical.choose_spec (ex (rk (pq qq) c)) c hc hp rfl, fun i hi => ?_⟩
  obtain ⟨c, hc, hp, rfl⟩ := rk_surj hi
  have fr := x_freeAt k1 k4 hc hp
  rw [k1.1] at fr
  unfold fX3_keyOf kO
  have e : ∀ m : Nat, m ≤ 3 → (nI o = nI m ↔ o = m) := fun m hm => ⟨fun w => nI_inj (by omega) (by omega) w, fun w => by rw [w]⟩
  have e1 : nI o = 1 ↔ o = 1 := e 1 (by omega)
  have e2 : nI o = 2 ↔ o = 2 := e 2 (by omega)
  have e3 : nI o = 3 ↔ o = 3 := e 3 (by omega)
  by_cases a1 : o = 1
  · rw [if_pos (e1.mpr a1), if_pos a1, X0_balanceAt hi (rk7 _), bd1_s]
  · rw [if_neg (fun w => a1 (e1.mp w)), if_neg a1]
    by_cases a2 : o = 2
    · rw [if_pos (e2.mpr a2), if_pos a2, fr, bd1_s]
      exact congrArg some (Classical.choose_spec (ex (rk (pq qq) c)) c hc hp rfl).symm
    · rw [if_neg (fun w => a2 (e2.mp w)), if_neg a2]
      by_cases a3 : o = 3
      · rw [if_pos (e3.mpr a3), if_pos a3, X0_movedAt hi (rk7 _), bd1_s]
      · rw [if_neg (fun w => a3 (e3.mp w)), if_neg a3]
theorem ranked_0 (h : PRc E dn t1 t2 Asz Anu Aba Amo Aco Hsz Hla Hce Bsz Bla Bce Tma Tlc Ttc day lim low hig thr off cre rcp pay ee mm qq hh bb) {c : Nat} (hc : c < 7) (hp : pq qq c = true) (Ksz : Int32) (Kcl : Nat → Int32) (Kke : Nat → Int32) : ∃ Ksz' Kcl' Kke', fX7_ranked Ksz Kcl Kke Asz Anu Aba Amo Hsz Hce 0 (nI (rk (pq qq) c)) = some (nI c, Ksz', Kcl', Kke') := by
  obtain ⟨F, f1, f2⟩ := key_b h (o := 0) (by omega)
  have hR := rk_lt hp hc
  obtain ⟨K1, K2, K3, g⟩ := ranked_b (rk7 (pq qq)) (u := 0) (by omega) (K := fun _ => 0) (fun i hi => by rw [f2 i hi]; rfl) hR Ksz Kcl Kke
  rw [srt_0 _ _ hR, (h.1.2.2.2 c hc hp).1] at g
  rw [h.1.1]
  exact ⟨K1, K2, K3, g⟩
theorem of_x (h : PRc E dn t1 t2 Asz Anu Aba Amo Aco Hsz Hla Hce Bsz Bla Bce Tma Tlc Ttc day lim low hig thr off cre rcp pay ee mm qq hh bb) {c : Nat} (hc : c < 7) (hp : pq qq c = true) :
    fX7_of Asz Anu Aba Amo Aco Hsz Hce Bsz Bce (nI c) 0 = some (mm c).toInt32 ∧ fX7_of Asz Anu Aba Amo Aco Hsz Hce Bsz Bce (nI c) 1 = some (hI hh c) ∧ fX7_of Asz Anu Aba Amo Aco Hsz Hce Bsz Bce (nI c) 2 = some ((mm c).toInt32 - hI hh c) ∧ fX7_of Asz Anu Aba Amo Aco Hsz Hce Bsz Bce (nI c) 3 = some (if 1000000000 < mm (10 + c) / 3650000 then (1000000000 : Int64) else mm (10 + c) / 3650000).toInt32 ∧ fX7_of Asz Anu Aba Amo Aco Hsz Hce Bsz Bce (nI c) 4 = some (hI bb c) ∧ fX7_of Asz Anu Aba Amo Aco Hsz Hce Bsz Bce (nI c) 5 = some (qq (10 + c)) ∧ fX7_of Asz Anu Aba Amo Aco Hsz Hce Bsz Bce (nI c) 6 = some (cI hh c) ∧ fX7_of Asz Anu Aba Amo Aco Hsz Hce Bsz Bce (nI c) 7 = some (cI bb c) := by
  have hR := rk_lt hp hc
  have hR12 := rk7 (pq qq)
  have hne := pq_ne h.1 hc hp
  obtain ⟨w1, w2, w3⟩ := h.1.2.2.2 c hc hp
  have f := cl_find h.1 hc hp
  have nn : (0 : Int32) ≤ nI (rk (pq qq) c) := nI_nn (by omega)
  have fr := x_freeAt h.1 h.2.2.2.1 hc hp
  have a0 := cl_bal h.1 hc hp
  have b1 := rw_held h.2.2.2.1 hne.1 (show c < 2 ^ 31 by omega)
  have b2 := rw_count h.2.2.2.1 hne.1 (show c < 2 ^ 31 by omega)
  have b3 := rw_held h.2.2.2.2.2.2.1 hne.1 (show c < 2 ^ 31 by omega)
  have b4 := rw_count h.2.2.2.2.2.2.1 hne.1 (show c < 2 ^ 31 by omega)
  have ct := h.2.1 c hc hp
  have nu := X0_numberAt hR hR12 Anu
  have ba := X0_balanceAt hR hR12 Aba
  have mo := X0_movedAt hR hR12 Amo
  have co := X0_countAt hR hR12 Aco
  rw [← h.1.1] at nu ba mo co
  refine ⟨?_, ?_, ?_, ?_, ?_, ?_, ?_, ?_⟩
  · unfold fX7_of fX5_aboutClient
    rw [f, bd1_s, if_pos nn, nu, bd1_s, if_pos (by decide), ba, bd1_s, bd1_s, a0.1]
  · unfold fX7_of fX5_aboutClient
    rw [f, bd1_s, if_pos nn, nu, bd1_s, if_neg (by decide), if_pos (by decide), w1, b1, bd1_s, bd1_s]
  · unfold fX7_of fX5_aboutClient
    rw [f, bd1_s, if_pos nn, nu, bd1_s, if_neg (by decide), if_neg (by decide), if_pos (by decide), fr, bd1_s, bd1_s]
  · unfold fX7_of fX5_aboutClient
    rw [f, bd1_s, if_pos nn, nu, bd1_s, if_neg (by decide), if_neg (by decide), if_neg (by decide), if_pos (by decide), co, bd1_s, lts, bd1_s, ct]
  · unfold fX7_of fX5_aboutClient
    rw [f, bd1_s, if_pos nn, nu, bd1_s, if_neg (by decide), if_neg (by decide), if_neg (by decide), if_neg (by decide), if_pos (by decide), w1, b3, bd1_s, bd1_s]
  · unfold fX7_of fX5_aboutClient
    rw [f, bd1_s, if_pos nn, nu, bd1_s, if_neg (by decide), if_neg (by decide), if_neg (by decide), if_neg (by decide), if_neg (by decide), if_pos (by decide), mo, bd1_s, bd1_s, w3]
  · unfold fX7_of fX5_aboutClient
    rw [f, bd1_s, if_pos nn, nu, bd1_s, if_neg (by decide), if_neg (by decide), if_neg (by decide), if_neg (by decide), if_neg (by decide), if_neg (by decide), if_pos (by decide), w1, b2, bd1_s, bd1_s]
  · unfold fX7_of fX5_aboutClient
    rw [f, bd1_s, if_pos nn, nu, bd1_s, if_neg (by decide), if_neg (by decide), if_neg (by decide), if_neg (by decide), if_neg (by decide), if_neg (by decide), if_neg (by decide), if_pos (by decide), w1, b4, bd1_s, bd1_s]
theorem of_n (h : PRc E dn t1 t2 Asz Anu Aba Amo Aco Hsz Hla Hce Bsz Bla Bce Tma Tlc Ttc day lim low hig thr off cre rcp pay ee mm qq hh bb) {c : Nat} (hc : c < 7) (hp : pq qq c = false) (q : Int32) : fX7_of Asz Anu Aba Amo Aco Hsz Hce Bsz Bce (nI c) q = some (-1) := by
  unfold fX7_of
  rw [cl_findn h.1 hc hp, bd1_s, if_neg (by decide)]
theorem s_count (c : Nat) (u7 : Int32) (u8 u10 : Int64) : ∀ (n i : Nat), i ≤ 20 → 20 - i < n → fL_same_L71 hh bb u7 u8 u10 (nI c) n (sumI (fun k => decide (hh (3 * k) = nI c)) (fun _ => 1) i) (sumI (fun k => decide (bb (3 * k) = nI c)) (fun _ => 1) i) (sumI (fun k => decide (bb (3 * k) = nI c)) (fun k => bb (3 * k + 1)) i) (nI (3 * i)) = some (cI hh c, cI bb c, hI bb c) := by
  intro n
  induction n with
  | zero => intro i h1 h2; omega
  | succ n ih =>
    intro i h1 h2
    rw [fL_same_L71]
    by_cases e : i = 20
    · subst e
      rw [if_pos (show (60 : Int32) ≤ nI (3 * 20) by decide)]
      rfl
    · have g := ih (i + 1) (by omega) (by omega)
      rw [sumI_s, sumI_s, sumI_s] at g
      have k0 : ∀ {β : Type} (k : Option β), ckI (nI (3 * i)) 60 k = k := fun k => ckI_ok (by omega) (by omega)
      have k1 : ∀ {β : Type} (k : Option β), ckI (nI (3 * i) + 1) 60 k = k := fun k => by rw [nI_1]; exact ckI_ok (by omega) (by omega)
      have c0 : (nI (3 * i)).toNatClampNeg = 3 * i := nI_clamp (by omega)
      have c1 : (nI (3 * i) + 1).toNatClampNeg = 3 * i + 1 := by rw [nI_1, nI_clamp (by omega)]
      have e3 : nI (3 * i) + 3 = nI (3 * (i + 1)) := by rw [show nI (3 * i) + 3 = nI (3 * i + 3) from nI_add _ 3, show 3 * i + 3 = 3 * (i + 1) by omega]
      rw [if_neg (show ¬ (60 : Int32) ≤ nI (3 * i) from nI_ge (b := 60) (by omega) (by omega)), k0, c0]
      by_cases a : hh (3 * i) = nI c
      · rw [if_pos a]
        rw [if_pos (decide_eq_true a)] at g
        unfold fL_same_J95
        rw [lts, k0, c0]
        by_cases b : bb (3 * i) = nI c
        · rw [if_pos b]
          rw [if_pos (decide_eq_true b), if_pos (decide_eq_true b)] at g
          unfold fL_same_J115
          rw [lts, k0, c0, if_pos b, k1, c1, lts, e3]
          exact g
        · rw [if_neg b]
          rw [if_neg (by rw [decide_eq_false b]; decide), if_neg (by rw [decide_eq_false b]; decide)] at g
          unfold fL_same_J115
          rw [lts, k0, c0, if_neg b, lts, e3, Int32.add_zero, Int32.add_zero]
          exact g
      · rw [if_neg a]
        rw [if_neg (by rw [decide_eq_false a]; decide)] at g
        unfold fL_same_J95
        rw [lts, k0, c0, Int32.add_zero]
        by_cases b : bb (3 * i) = nI c
        · rw [if_pos b]
          rw [if_pos (decide_eq_true b), if_pos (decide_eq_true b)] at g
          unfold fL_same_J115
          rw [lts, k0, c0, if_pos b, k1, c1, lts, e3]
          exact g
        · rw [if_neg b]
          rw [if_neg (by rw [decide_eq_false b]; decide), if_neg (by rw [decide_eq_false b]; decide)] at g
          unfold fL_same_J115
          rw [lts, k0, c0, if_neg b, lts, e3, Int32.add_zero, Int32.add_zero]
          exact g
def hL (hh : Nat → Int32) (c : Nat) : Int64 := (hI hh c).toInt64
theorem s_each (h : PRc E dn t1 t2 Asz Anu Aba Amo Aco Hsz Hla Hce Bsz Bla Bce Tma Tlc Ttc day lim low hig thr off cre rcp pay ee mm qq hh bb) (hdn : dn ≤ 2800) : ∀ (n i : Nat) (Ksz : Int32) (Kcl : Nat → Int32) (Kke : Nat → Int32), 1 ≤ i → i ≤ 7 → 7 - i < n → ∃ Ksz' Kcl' Kke', fL_same_L12 mm qq hh bb Asz Anu Aba Amo Aco Hsz Hce Bsz Bce n Ksz Kcl Kke (nI (rk (pq qq) i)) (sumC (pq qq) mm i) (sumC (pq qq) (hL hh) i) (nI i) = some (.inr (Ksz', Kcl', Kke', nI (rk (pq qq) 7), sumC (pq qq) mm 7, sumC (pq qq) (hL hh) 7)) := by
  intro n
  induction n with
  | zero => intro i _ _ _ h0 h1 h2; omega
  | succ n ih =>
    intro i Ksz Kcl Kke h0 h1 h2
    rw [fL_same_L12]
    by_cases e : i = 7
    · subst e
      rw [if_pos (show (7 : Int32) ≤ nI 7 from nI_le (a := 7) (by omega) (by omega))]
      exact ⟨Ksz, Kcl, Kke, rfl⟩
    · have q18 : ∀ {β : Type} (k : Option β), ckI (10 + nI i) 18 k = k := fun k => by rw [show (10 : Int32) + nI i = nI (10 + i) from nI_add 10 i]; exact ckI_ok (by omega) (by omega)
      have q25 : ∀ {β : Type} (k : Option β), ckI (10 + nI i) 25 k = k := fun k => by rw [show (10 : Int32) + nI i = nI (10 + i) from nI_add 10 i]; exact ckI_ok (by omega) (by omega)
      have p25 : ∀ {β : Type} (k : Option β), ckI (nI i) 25 k = k := fun k => ckI_ok (by omega) (by omega)
      have q0 : ∀ {β : Type} (k : Option β), ckI 0 18 k = k := fun k => ckI_ok (i := 0) (by omega) (by omega)
      have z0 : (0 : Int32).toNatClampNeg = 0 := rfl
      have d10 : ((10 : Int32) + nI i).toNatClampNeg = 10 + i := by rw [show (10 : Int32) + nI i = nI (10 + i) from nI_add 10 i, nI_clamp (by omega)]
      have di : (nI i).toNatClampNeg = i := nI_clamp (by omega)
      rw [if_neg (show ¬ (7 : Int32) ≤ nI i from nI_ge (b := 7) (by omega) (by omega)), q18, d10]
      cases hp : pq qq i with
      | false =>
        have w : ¬ (0 : Int) ≤ (qq (10 + i)).toInt := of_decide_eq_false hp
        rw [if_neg (show ¬ (0 : Int32) ≤ qq (10 + i) by rw [le_i, toInt_0]; exact w), of_n h (by omega) hp, bd1_s, if_pos rfl]
        have g := ih (i + 1) Ksz Kcl Kke (by omega) (by omega) (by omega)
        rw [rk_f hp, sumC_s, sumC_s, hp, if_neg (by decide), if_neg (by decide), ← nI_1] at g
        exact g
      | true =>
        have w : (0 : Int) ≤ (qq (10 + i)).toInt := of_decide_eq_true hp
        obtain ⟨K1, K2, K3, r⟩ := ranked_0 h (show i < 7 by omega) hp Ksz Kcl Kke
        obtain ⟨o0, o1, o2, o3, o4, o5, o6, o7⟩ := of_x h (show i < 7 by omega) hp
        have hne := pq_ne h.1 (show i < 7 by omega) hp
        have cnt := s_count (hh := hh) (bb := bb) i (nI (rk (pq qq) i) + 1) (sumC (pq qq) mm i) (sumC (pq qq) (hL hh) i) 2147483648 0 (by omega) (by omega)
        have cnt : fL_same_L71 hh bb (nI (rk (pq qq) i) + 1) (sumC (pq qq) mm i) (sumC (pq qq) (hL hh) i) (nI i) 2147483648 0 0 0 0 = _ := cnt
        have e0 := h.2.2.2.2.2.2.2.2.2.1.2.1
        have hi := h.2.2.2.2.2.1.1
        have held : fL_held hh (nI i) (qq 0) = some (hI hh i) := by
          rw [e0, l_held, he_hI hne.1 (by omega) (nI_toInt (by omega)) hi]
        have free := l_free (mm := mm) (qq := qq) (hh := hh) hne.1 (show i < 7 by omega) e0 (by omega) hi
        obtain ⟨i1, i2, i3, i4⟩ := h.2.2.1 i (by omega) hp
        obtain ⟨d1, d2⟩ := dn64 (v := mm i) (by omega) (by omega)
        have dv := div64 i3
        have e9 : (1000000000 : Int64).toInt = 1000000000 := by decide
        obtain ⟨K4, K5, K6, g⟩ := ih (i + 1) K1 K2 K3 (by omega) (by omega) (by omega)
        rw [rk_s hp, sumC_s, sumC_s, hp, if_pos rfl, if_pos rfl, ← nI_1, ← nI_1] at g
        have j243 : ∀ s0 : Int64, (if 1000000000 < mm (10 + i) / 3650000 then (1000000000 : Int64) else mm (10 + i) / 3650000) = s0 → fL_same_J243 mm qq hh bb Asz Anu Aba Amo Aco Hsz Hce Bsz Bce K1 K2 K3 (nI (rk (pq qq) i) + 1) (sumC (pq qq) mm i) (sumC (pq qq) (hL hh) i) (nI i) (cI hh i) (cI bb i) (hI bb i) s0 (if 1000000000 < mm (10 + i) / 3650000 then (1000000000 : Int64) else mm (10 + i) / 3650000).toInt32.toInt64 (fL_same_L12 mm qq hh bb Asz Anu Aba Amo Aco Hsz Hce Bsz Bce n) = some (.inr (K4, K5, K6, nI (rk (pq qq) 7), sumC (pq qq) mm 7, sumC (pq qq) (hL hh) 7)) := by
          intro s0 es
          rw [es]
          have rng : 0 ≤ s0.toInt ∧ s0.toInt ≤ 1000000000 := by
            rw [← es]
            by_cases q : 1000000000 < mm (10 + i) / 3650000
            · rw [if_pos q, e9]; omega
            · rw [if_neg q]
              rw [lt64, e9, dv] at q
              rw [dv]
              omega
          unfold fL_same_J243
          rw [(dn64 (v := s0) (by omega) (by omega)).2, if_pos rfl, o4, bd1_s, if_pos rfl, o5, bd1_s, q18, d10, if_pos rfl, o6, bd1_s, if_pos rfl, o7, bd1_s, if_pos rfl, p25, di, lts, q0, z0, held, bd1_s, lts]
          exact g
        refine ⟨K4, K5, K6, ?_⟩
        rw [if_pos (show (0 : Int32) ≤ qq (10 + i) by rw [le_i, toInt_0]; exact w), r, bd4_s, if_pos rfl, cnt, bd3_s, q25, lts, o0, bd1_s, p25, di, d2, if_pos rfl, o1, bd1_s, q0, z0, held, bd1_s, if_pos rfl, o2, bd1_s, free, bd1_s, if_pos rfl, o3, bd1_s]
        by_cases q : mm (10 + i) / 3650000 ≤ 1000000000
        · rw [if_pos q]
          exact j243 _ (if_neg (by rw [lt64]; rw [le64] at q; omega))
        · rw [if_neg q]
          exact j243 _ (if_pos (by rw [lt64]; rw [le64] at q; omega))
end SM
