/-! the pure side, w: looking ahead -/
theorem sub3650 (T : Int64) (r : Int32) : T - 3650000 * r.toInt64 = T + -3650000 * r.toInt64 := by rw [Int64.sub_eq_add_neg, Int64.neg_mul]
theorem X5_heldOn_L {R : Nat} (hR : R ≤ 15) (ce : Nat → Int32) (cl d : Int32) : ∀ (n i : Nat), i ≤ R → R - i < n → fX5_heldOn_L5 (nI R) ce cl d n (sumI (fun j => decide (ce (j * 4 + 1) = cl) && !decide (ce (j * 4 + 3) < d)) (fun j => ce (j * 4 + 2)) i) (nI i) = some (sumI (fun j => decide (ce (j * 4 + 1) = cl) && !decide (ce (j * 4 + 3) < d)) (fun j => ce (j * 4 + 2)) R) := by
  intro n
  induction n with
  | zero => intro i h1 h2; omega
  | succ n ih =>
    intro i h1 h2
    rw [fX5_heldOn_L5]
    by_cases e : i = R
    · subst e; rw [if_pos (nI_le (by omega) (by omega))]
    · have g1 : fX4_get (nI R) ce (nI i) 1 = _ := X4_get (k := 1) (by omega) hR (by omega) ce
      have g2 : fX4_get (nI R) ce (nI i) 2 = _ := X4_get (k := 2) (by omega) hR (by omega) ce
      have g3 : fX4_get (nI R) ce (nI i) 3 = _ := X4_get (k := 3) (by omega) hR (by omega) ce
      have h3 := ih (i + 1) (by omega) (by omega)
      rw [sumI] at h3
      rw [if_neg (nI_ge (by omega) (by omega)), g1, bd1_s, nI_1]
      by_cases c1 : ce (i * 4 + 1) = cl
      · rw [if_pos c1, g3, bd1_s]
        by_cases c3 : ce (i * 4 + 3) < d
        · rw [if_pos c3]
          rw [if_neg (by simp [c3])] at h3
          exact h3
        · rw [if_neg c3, g2, bd1_s, lts]
          rw [if_pos (by simp [c1, c3])] at h3
          exact h3
      · rw [if_neg c1]
        rw [if_neg (by simp [c1])] at h3
        exact h3
theorem heldOn_both {R : Nat} {Hsz Hla : Int32} {Hce st : Nat → Int32} (hr : RWr R Hsz Hla Hce st 6 8 48) (cl d : Int32) : ∃ v, fX5_heldOn Hsz Hce cl d = some v ∧ fX8_heldOn st cl d = some v := by
  obtain ⟨⟨hz, h6, hR, -⟩, hr⟩ := hr
  have x := X5_heldOn_L hR Hce cl d 2147483648 0 (by omega) (by omega)
  rw [nI_0, show sumI (fun j => decide (Hce (j * 4 + 1) = cl) && !decide (Hce (j * 4 + 3) < d)) (fun j => Hce (j * 4 + 2)) 0 = 0 from rfl] at x
  refine ⟨_, by unfold fX5_heldOn; rw [hz, x, bd1_s], ?_⟩
  rw [M_heldOn hR h6]
  refine congrArg some (sumI_cong R (fun i hi => ?_))
  have e1 := hr (i * 4 + 1) (by omega)
  have e2 := hr (i * 4 + 2) (by omega)
  have e3 := hr (i * 4 + 3) (by omega)
  rw [show 48 + (i * 4 + 1) = 48 + 4 * i + 1 by omega] at e1
  rw [show 48 + (i * 4 + 2) = 48 + 4 * i + 2 by omega] at e2
  rw [show 48 + (i * 4 + 3) = 48 + 4 * i + 3 by omega] at e3
  rw [← e1, ← e2, ← e3]
  exact ⟨rfl, fun _ => rfl⟩
/-- one day further, in bounds -/
theorem aheadStep {lim low hig thr b : Int32} {t : Int64} {D : Nat} (hD : D ≤ 11000) (h1 : 0 ≤ lim.toInt) (h2 : 0 ≤ low.toInt ∧ low.toInt ≤ 2000) (h3 : 0 ≤ hig.toInt ∧ hig.toInt ≤ 2000) (h4 : 0 ≤ b.toInt ∧ b.toInt ≤ 1000000000) (ht : 0 ≤ t.toInt ∧ t.toInt ≤ 2000000000000 * (D : Int)) :
    (0 ≤ (t + growL lim low hig b).toInt ∧ (t + growL lim low hig b).toInt ≤ 2000000000000 * ((D : Int) + 1)) ∧ (0 ≤ (b + crI thr b (t + growL lim low hig b)).toInt ∧ (b + crI thr b (t + growL lim low hig b)).toInt ≤ 1000000000) ∧ (0 ≤ (t + growL lim low hig b + -3650000 * (crI thr b (t + growL lim low hig b)).toInt64).toInt ∧ (t + growL lim low hig b + -3650000 * (crI thr b (t + growL lim low hig b)).toInt64).toInt ≤ 2000000000000 * ((D : Int) + 1)) := by
  have g := growL_b (lim := lim) (low := low) (hig := hig) (b := b) h1 h2 h3 h4
  have e : (t + growL lim low hig b).toInt = t.toInt + (growL lim low hig b).toInt := add64 (by omega) (by omega)
  obtain ⟨T, eT⟩ : ∃ T, T = t + growL lim low hig b := ⟨_, rfl⟩
  rw [← eT] at e ⊢
  have hT : 0 ≤ T.toInt ∧ T.toInt ≤ 2000000000000 * ((D : Int) + 1) := by omega
  have c := crI_b (thr := thr) (b := b) (t := T) h4 hT.1
  obtain ⟨r, er⟩ : ∃ r, r = crI thr b T := ⟨_, rfl⟩
  rw [← er] at c ⊢
  have k0 : (-3650000 : Int64).toInt = -3650000 := rfl
  have k1 : (-3650000 * r.toInt64).toInt = -3650000 * r.toInt := by rw [mul64 (by rw [k0, up64]; omega) (by rw [k0, up64]; omega), k0, up64]
  have vt : (T + -3650000 * r.toInt64).toInt = T.toInt - 3650000 * r.toInt := by rw [add64 (by rw [k1]; omega) (by rw [k1]; omega), k1]; omega
  have hb : (b + r).toInt = b.toInt + r.toInt := add_toInt (by omega) (by omega)
  rw [vt, hb]
  omega
theorem payable_L {R dn : Nat} {Hsz Hla day lim low hig thr : Int32} {Hce st : Nat → Int32} (hr : RWr R Hsz Hla Hce st 6 8 48) (hdn : day = nI dn ∧ dn ≤ 9999) (s0 : st 0 = day) (s1 : st 1 = lim) (s2 : st 2 = low) (s3 : st 3 = hig) (s4 : st 4 = thr) (l1 : 0 ≤ lim.toInt) (l2 : 0 ≤ low.toInt ∧ low.toInt ≤ 2000) (l3 : 0 ≤ hig.toInt ∧ hig.toInt ≤ 2000) (cl am : Int32) : ∀ (n z : Nat) (b : Int32) (t : Int64), z ≤ 401 → 401 - z < n → (0 ≤ b.toInt ∧ b.toInt ≤ 1000000000) → (0 ≤ t.toInt ∧ t.toInt ≤ 2000000000000 * ((dn + z : Nat) : Int)) →
    (∃ x b' t', fX5_firstDayWithFree_L32 Hsz Hce day lim low hig thr am cl n b t (nI z) = some (.inl x) ∧ fX8_payableOn_L32 st cl am n b t (nI z) = some (.inl (x, b', t'))) ∨ (∃ b' t', fX5_firstDayWithFree_L32 Hsz Hce day lim low hig thr am cl n b t (nI z) = some (.inr ()) ∧ fX8_payableOn_L32 st cl am n b t (nI z) = some (.inr (b', t'))) := by
  intro n
  induction n with
  | zero => intro z b t h1 h2; omega
  | succ n ih =>
    intro z b t h1 h2 hb ht
    have e400 : (400 : Int32).toInt = 400 := rfl
    have ed : day + nI z = nI (dn + z) := by rw [hdn.1, nI_add]
    obtain ⟨v, hx, hm⟩ := heldOn_both hr cl (nI (dn + z))
    rw [fX5_firstDayWithFree_L32, fX8_payableOn_L32]
    by_cases e : z = 401
    · subst e
      rw [if_pos (by decide), if_pos (by decide)]
      exact Or.inr ⟨b, t, rfl, rfl⟩
    · have n4 : ¬ (400 : Int32) < nI z := fun q => by rw [lt_i, e400, nI_toInt (by omega)] at q; omega
      rw [if_neg n4, if_neg n4, lts, ed, show ckI 0 336 _ = _ from ckI_ok (i := 0) (by omega) (by omega), show (0 : Int32).toNatClampNeg = 0 from rfl, s0, ed, lts]
      by_cases e0 : z = 0
      · subst e0
        rw [if_pos (show nI 0 ≤ 0 by decide), if_pos (show nI 0 ≤ 0 by decide), hx, bd1_s, hm, bd1_s, nI_1]
        by_cases q : b - v < am
        · rw [if_pos q, if_pos q]
          exact ih 1 b t (by omega) (by omega) hb (by omega)
        · rw [if_neg q, if_neg q]
          exact Or.inl ⟨_, b, t, rfl, rfl⟩
      · have z0 : ¬ nI z ≤ 0 := nle0 (by rw [nI_toInt (by omega)]; omega)
        obtain ⟨b1, b2, b3⟩ := aheadStep (thr := thr) (D := dn + z) (by omega) l1 l2 l3 hb ht
        rw [if_neg z0, if_neg z0, growth_i, bd1_s, lts, dayEnds_i s1 s2 s3 s4 hb b1.1, i32_div30 (by omega)]
        by_cases c : nI ((dn + z) % 30) = 0
        · rw [if_pos c, if_pos c, interest_i, bd1_s, lts, lts, hx, bd1_s, bd3_s, hm, bd1_s, sub3650, nI_1]
          by_cases q : b + crI thr b (t + growL lim low hig b) - v < am
          · rw [if_pos q, if_pos q]
            exact ih (z + 1) _ _ (by omega) (by omega) b2 (by rw [show ((dn + (z + 1) : Nat) : Int) = ((dn + z : Nat) : Int) + 1 by push_cast; omega]; exact b3)
          · rw [if_neg q, if_neg q]
            exact Or.inl ⟨_, _, _, rfl, rfl⟩
        · rw [if_neg c, if_neg c, hx, bd1_s, bd3_s, hm, bd1_s, nI_1]
          by_cases q : b - v < am
          · rw [if_pos q, if_pos q]
            exact ih (z + 1) _ _ (by omega) (by omega) hb (by rw [show ((dn + (z + 1) : Nat) : Int) = ((dn + z : Nat) : Int) + 1 by push_cast; omega]; exact b1)
          · rw [if_neg q, if_neg q]
            exact Or.inl ⟨_, _, _, rfl, rfl⟩
theorem q_payableOn {n : Nat} {Asz : Int32} {Anu : Nat → Int32} {Aba : Nat → Int32} {Amo : Nat → Int32} {Aco : Nat → Int64} {Hsz : Int32} {Hla : Int32} {Hce : Nat → Int32} {Bsz : Int32} {Bla : Int32} {Bce : Nat → Int32} {Tma : Int32} {Tlc : Int32} {Ttc : Nat → Int32} {day : Int32} {lim : Int32} {low : Int32} {hig : Int32} {thr : Int32} {off : Int64} {cre : Int64} {rcp : Int64} {pay : Int64} {st : Nat → Int32} {gr : Nat → Int64} (h : RS n Asz Anu Aba Amo Aco Hsz Hla Hce Bsz Bla Bce Tma Tlc Ttc day lim low hig thr off cre rcp pay st gr) (tb : Int32) (tk : Int64) (p1 p2 : Int32) : ∃ r tb' tk', fX7_payableOn Asz Anu Aba Aco Hsz Hce day lim low hig thr p1 p2 = some r ∧ fX8_payableOn st gr tb tk p1 p2 = some (r, tb', tk') := by
  obtain ⟨C, R, B, E, dn, hc, hi, hr, hrn, hh, hb, hbn, hbi, ht, hv, hE, hs⟩ := h
  obtain ⟨hz, h5, hC⟩ := hc.1
  unfold fX7_payableOn fX8_payableOn
  rcases find_both hc hi p1 with ⟨c, f1, f2, f3, f4, f5⟩ | ⟨f3, f4, f5⟩
  · rw [f4, bd1_s, if_pos (nI_nn (by omega)), f5, bd1_s, if_neg (nI_nm6 (by omega))]
    rcases amt_dec p2 with ⟨a1, a2, a3⟩ | ⟨a1, a2, a3⟩
    · obtain ⟨d1, ⟨s0, s1, s2, s3, s4⟩, -, l1, l2, l3, l4⟩ := hs
      obtain ⟨r1, r2, r3, r4⟩ := hc.2 c f1
      have g := hi.1 c f1
      rw [a2, bd1_s, if_neg n10, a3, bd1_s, if_neg n10, thinks_i hC f1, bd2_s, ← r2, ← r4]
      unfold fX5_firstDayWithFree
      rw [hz, X0_numberAt f1 hC, bd1_s, X0_balanceAt f1 hC, bd1_s, X0_countAt f1 hC, bd1_s, f2]
      have L := payable_L hr d1 s0 s1 s2 s3 s4 l1.1 l2 l3 p1 p2 2147483648 0 (Aba c) (Aco c) (by omega) (by omega) (by omega) (by push_cast; omega)
      rw [nI_0] at L
      rcases L with ⟨x, b', t', x1, m1⟩ | ⟨b', t', x1, m1⟩
      · rw [x1, m1]
        exact ⟨x, b', t', rfl, rfl⟩
      · rw [x1, m1]
        exact ⟨-6, b', t', rfl, rfl⟩
    · rw [a2, bd1_s, if_pos rfl, a3, bd1_s, if_pos rfl]
      exact ⟨-2, tb, tk, rfl, rfl⟩
  · rw [f4, bd1_s, if_neg (by decide), f5, bd1_s, if_pos rfl]
    exact ⟨-1, tb, tk, rfl, rfl⟩
theorem int_L {dn p : Nat} {lim low hig thr : Int32} {st : Nat → Int32} (hdn : dn ≤ 9999) (hp : p ≤ 400) (s0 : st 0 = nI dn) (s1 : st 1 = lim) (s2 : st 2 = low) (s3 : st 3 = hig) (s4 : st 4 = thr) (l1 : 0 ≤ lim.toInt) (l2 : 0 ≤ low.toInt ∧ low.toInt ≤ 2000) (l3 : 0 ≤ hig.toInt ∧ hig.toInt ≤ 2000) : ∀ (m d D0 z8 kx km : Nat) (b s : Int32) (t tm : Int64), d + m = dn + p → dn ≤ d → D0 ≤ d → d < z8 → z8 % 30 = 0 → z8 ≤ d + 30 → m < kx → m < km → (0 ≤ b.toInt ∧ b.toInt ≤ 1000000000) → (0 ≤ tm.toInt ∧ tm.toInt ≤ 2000000000000 * (d : Int)) → tm = t + growL lim low hig b * (nI d - nI D0).toInt64 →
    ∃ r b' t', fX5_interestAhead_L37 (nI dn) lim low hig thr (nI p) kx b t s (nI D0) (nI z8) = some r ∧ fX8_interestIn_L39 st (nI p) km b tm s (nI (d - dn + 1)) = some (b', t', r) := by
  intro m
  induction m with
  | zero =>
    intro d D0 z8 kx km b s t tm h1 h2 h3 h4 h5 h6 h7 h8 hb ht hA
    obtain ⟨x, ea⟩ : ∃ a, kx = a + 1 := ⟨kx - 1, by omega⟩
    obtain ⟨y, eb⟩ : ∃ b, km = b + 1 := ⟨km - 1, by omega⟩
    subst ea; subst eb
    rw [fX5_interestAhead_L37, fX8_interestIn_L39, nI_add, if_pos (show nI (dn + p) < nI z8 by rw [lt_i, nI_toInt (by omega), nI_toInt (by omega)]; omega), if_pos (show nI p < nI (d - dn + 1) by rw [lt_i, nI_toInt (by omega), nI_toInt (by omega)]; omega)]
    exact ⟨s, b, tm, rfl, rfl⟩
  | succ m ih =>
    intro d D0 z8 kx km b s t tm h1 h2 h3 h4 h5 h6 h7 h8 hb ht hA
    obtain ⟨y, eb⟩ : ∃ b, km = b + 1 := ⟨km - 1, by omega⟩
    subst eb
    obtain ⟨b1, b2, b3⟩ := aheadStep (thr := thr) (D := d) (by omega) l1 l2 l3 hb ht
    have e1 : nI dn + nI (d - dn + 1) = nI (d + 1) := by rw [nI_add]; exact congrArg nI (by omega)
    have e2 : d + 1 - dn + 1 = d - dn + 1 + 1 := by omega
    rw [fX8_interestIn_L39, if_neg (show ¬ nI p < nI (d - dn + 1) by rw [lt_i, nI_toInt (by omega), nI_toInt (by omega)]; omega), show ckI 0 336 _ = _ from ckI_ok (i := 0) (by omega) (by omega), show (0 : Int32).toNatClampNeg = 0 from rfl, s0, e1, dayEnds_i s1 s2 s3 s4 hb b1.1, i32_div30 (by omega)]
    by_cases q : d + 1 = z8
    · obtain ⟨x, ea⟩ : ∃ a, kx = a + 1 := ⟨kx - 1, by omega⟩
      subst ea
      have eT : t + growL lim low hig b * (nI z8 - nI D0).toInt64 = tm + growL lim low hig b := by rw [← q, gapS h3 (by omega), hA, Int64.add_assoc]
      have c : nI ((d + 1) % 30) = 0 := by rw [q, h5]; rfl
      rw [if_pos c, bd3_s, lts, nI_1, ← e2, fX5_interestAhead_L37, nI_add, if_neg (show ¬ nI (dn + p) < nI z8 by rw [lt_i, nI_toInt (by omega), nI_toInt (by omega)]; omega), growth_i, bd1_s, eT, lts, interest_i, bd1_s, lts, lts, lts, sub3650, lit_30, nI_add]
      exact ih (d + 1) z8 (z8 + 30) x y _ _ _ _ (by omega) (by omega) (by omega) (by omega) (by omega) (by omega) (by omega) (by omega) b2 (by push_cast; exact b3) (by rw [q, gap0])
    · have c : ¬ nI ((d + 1) % 30) = 0 := fun z => by
        have := nI_inj (a := (d + 1) % 30) (b := 0) (by omega) (by omega) z
        omega
      rw [if_neg c, bd3_s, lts, nI_1, ← e2, Int32.add_zero]
      exact ih (d + 1) D0 z8 kx y b s t _ (by omega) (by omega) (by omega) (by omega) (by omega) (by omega) (by omega) (by omega) hb (by push_cast; exact b1) (by rw [gapS h3 (by omega), hA, Int64.add_assoc])
theorem q_interestIn {n : Nat} {Asz : Int32} {Anu : Nat → Int32} {Aba : Nat → Int32} {Amo : Nat → Int32} {Aco : Nat → Int64} {Hsz : Int32} {Hla : Int32} {Hce : Nat → Int32} {Bsz : Int32} {Bla : Int32} {Bce : Nat → Int32} {Tma : Int32} {Tlc : Int32} {Ttc : Nat → Int32} {day : Int32} {lim : Int32} {low : Int32} {hig : Int32} {thr : Int32} {off : Int64} {cre : Int64} {rcp : Int64} {pay : Int64} {st : Nat → Int32} {gr : Nat → Int64} (h : RS n Asz Anu Aba Amo Aco Hsz Hla Hce Bsz Bla Bce Tma Tlc Ttc day lim low hig thr off cre rcp pay st gr) (tb : Int32) (tk : Int64) (p1 p2 : Int32) : ∃ r tb' tk', fX7_interestIn Asz Anu Aba Aco day lim low hig thr p1 p2 = some r ∧ fX8_interestIn st gr tb tk p1 p2 = some (r, tb', tk') := by
  obtain ⟨C, R, B, E, dn, hc, hi, hr, hrn, hh, hb, hbn, hbi, ht, hv, hE, hs⟩ := h
  obtain ⟨hz, h5, hC⟩ := hc.1
  unfold fX7_interestIn fX8_interestIn
  rcases find_both hc hi p1 with ⟨c, f1, f2, f3, f4, f5⟩ | ⟨f3, f4, f5⟩
  · rw [f4, bd1_s, if_pos (nI_nn (by omega)), f5, bd1_s, if_neg (nI_nm6 (by omega))]
    rcases d400_dec p2 with ⟨a1, a2, a3, a4⟩ | ⟨a1, a4⟩
    · obtain ⟨d1, ⟨s0, s1, s2, s3, s4⟩, -, l1, l2, l3, l4⟩ := hs
      obtain ⟨r1, r2, r3, r4⟩ := hc.2 c f1
      have g := hi.1 c f1
      obtain ⟨p, ep, ep2, ep3⟩ := nneg_nI (x := p2) (by omega)
      rw [if_neg a2, if_pos a3, a4, bd1_s, if_neg n10, thinks_i hC f1, bd2_s, ← r2, ← r4]
      have enx : fX7_nextCreditDay day = some (nI (dn / 30 * 30 + 30)) := by
        unfold fX7_nextCreditDay
        rw [d1.1, i32_div30 (by omega), nI_sub (by omega), lit_30, nI_add]
        exact congrArg (fun x => some (nI (x + 30))) (by omega)
      unfold fX5_interestAhead
      rw [hz, X0_balanceAt f1 hC, bd1_s, X0_countAt f1 hC, bd1_s, enx, bd1_s]
      have hd := d1.2
      obtain ⟨r, b', t', x1, m1⟩ := int_L (p := p) (st := st) (lim := lim) (low := low) (hig := hig) (thr := thr) d1.2 (by omega) (s0.trans d1.1) s1 s2 s3 s4 l1.1 l2 l3 p dn dn (dn / 30 * 30 + 30) 2147483648 2147483648 (Aba c) 0 (Aco c) (Aco c) rfl (by omega) (by omega) (by omega) (by omega) (by omega) (by omega) (by omega) (by omega) (by omega) (by rw [gap0])
      rw [← d1.1, ← ep] at x1
      rw [← ep, show nI (dn - dn + 1) = 1 by rw [Nat.sub_self]; rfl] at m1
      rw [x1, bd1_s, bd1_s, m1, bd3_s]
      exact ⟨r, b', t', rfl, rfl⟩
    · rw [a4, bd1_s, if_pos rfl]
      refine ⟨-2, tb, tk, ?_, rfl⟩
      rcases a1 with c1 | ⟨c1, c2⟩
      · rw [if_pos c1]
      · rw [if_neg c1, if_neg c2]
  · rw [f4, bd1_s, if_neg (by decide), f5, bd1_s, if_pos rfl]
    exact ⟨-1, tb, tk, rfl, rfl⟩
/-! typing -/
theorem chr_nar : ∀ k : Fin 127, vp_nar .char (((nI k.val).toUInt32 % 65536).toInt32) = nI k.val := by decide
