/-! the pure side, h: releases and settlements -/
theorem row_inj {R n : Nat} {la : Int32} {ce : Nat → Int32} (h : NIv R la ce n) {i j : Nat} (hi : i < R) (hj : j < R) (e : ce (i * 4) = ce (j * 4)) : i = j := by
  rcases Nat.lt_trichotomy i j with q | q | q
  · have := h.2.1 i j q hj; rw [e] at this; omega
  · exact q
  · have := h.2.1 j i q hi; rw [e] at this; omega
theorem hold_both {R n : Nat} {sz la : Int32} {ce st : Nat → Int32} (h : RWr R sz la ce st 6 8 48) (hn : NIv R la ce n) (p : Int32) :
    (∃ g, g < R ∧ ce (g * 4) = p ∧ fX4_find sz ce p = some (nI g) ∧ fX8_findHold st p = some (nI g)) ∨ ((∀ g, g < R → ¬ ce (g * 4) = p) ∧ fX4_find sz ce p = some (-1) ∧ fX8_findHold st p = some (-6)) := by
  obtain ⟨⟨hz, h6, hR, -⟩, hr⟩ := h
  have q : ∀ j, j < R → st (48 + 4 * j) = ce (j * 4) := fun j hj => by rw [hr (j * 4) (by omega), Nat.mul_comm 4 j]
  by_cases c : ∃ g, g < R ∧ ce (g * 4) = p
  · obtain ⟨g, h1, h2⟩ := c
    have hu : ∀ j, j < R → j ≠ g → ¬ ce (j * 4) = p := fun j hj hne e => hne (row_inj hn hj h1 (e.trans h2.symm))
    refine Or.inl ⟨g, h1, h2, ?_, ?_⟩
    · rw [hz]; exact X4_find_i hR h1 h2 (fun j hj => hu j (by omega) (by omega))
    · exact M_findHold_i hR h1 h6 (by rw [q g h1]; exact h2) (fun j hj hne => by rw [q j hj]; exact hu j hj hne)
  · have hn : ∀ j, j < R → ¬ ce (j * 4) = p := fun j hj e => c ⟨j, hj, e⟩
    refine Or.inr ⟨hn, ?_, ?_⟩
    · rw [hz]; exact X4_find_n hR hn
    · exact M_findHold_n hR h6 (fun j hj => by rw [q j hj]; exact hn j hj)
theorem bill_both {R n : Nat} {sz la : Int32} {ce st : Nat → Int32} (h : RWr R sz la ce st 7 9 108) (hn : NIv R la ce n) (p : Int32) :
    (∃ g, g < R ∧ ce (g * 4) = p ∧ fX4_find sz ce p = some (nI g) ∧ fX8_findBill st p = some (nI g)) ∨ ((∀ g, g < R → ¬ ce (g * 4) = p) ∧ fX4_find sz ce p = some (-1) ∧ fX8_findBill st p = some (-6)) := by
  obtain ⟨⟨hz, h6, hR, -⟩, hr⟩ := h
  have q : ∀ j, j < R → st (108 + 4 * j) = ce (j * 4) := fun j hj => by rw [hr (j * 4) (by omega), Nat.mul_comm 4 j]
  by_cases c : ∃ g, g < R ∧ ce (g * 4) = p
  · obtain ⟨g, h1, h2⟩ := c
    have hu : ∀ j, j < R → j ≠ g → ¬ ce (j * 4) = p := fun j hj hne e => hne (row_inj hn hj h1 (e.trans h2.symm))
    refine Or.inl ⟨g, h1, h2, ?_, ?_⟩
    · rw [hz]; exact X4_find_i hR h1 h2 (fun j hj => hu j (by omega) (by omega))
    · exact M_findBill_i hR h1 h6 (by rw [q g h1]; exact h2) (fun j hj hne => by rw [q j hj]; exact hu j hj hne)
  · have hn : ∀ j, j < R → ¬ ce (j * 4) = p := fun j hj e => c ⟨j, hj, e⟩
    refine Or.inr ⟨hn, ?_, ?_⟩
    · rw [hz]; exact X4_find_n hR hn
    · exact M_findBill_n hR h6 (fun j hj => by rw [q j hj]; exact hn j hj)
theorem RSc_rmH {n C R B E dn g : Nat} {Asz : Int32} {Anu : Nat → Int32} {Aba : Nat → Int32} {Amo : Nat → Int32} {Aco : Nat → Int64} {Hsz : Int32} {Hla : Int32} {Hce : Nat → Int32} {Bsz : Int32} {Bla : Int32} {Bce : Nat → Int32} {Tma : Int32} {Tlc : Int32} {Ttc : Nat → Int32} {day : Int32} {lim : Int32} {low : Int32} {hig : Int32} {thr : Int32} {off : Int64} {cre : Int64} {rcp : Int64} {pay : Int64} {st st' ce' : Nat → Int32} {gr : Nat → Int64} (h : RSc n C R B E dn Asz Anu Aba Amo Aco Hsz Hla Hce Bsz Bla Bce Tma Tlc Ttc day lim low hig thr off cre rcp pay st gr) (hg : g < R) (e1 : ∀ j, j < (R - 1) * 4 → ce' j = if g * 4 ≤ j then Hce (j + 4) else Hce j) (e2 : ∀ j, j < 4 * (R - 1) → st' (48 + j) = if g * 4 ≤ j then st (48 + j + 4) else st (48 + j)) (e3 : st' 6 = nI (R - 1)) (o : ∀ j, j ≠ 6 → j < 48 ∨ 108 ≤ j → st' j = st j) :
    RSc n C (R - 1) B E dn Asz Anu Aba Amo Aco (nI (R - 1)) Hla ce' Bsz Bla Bce Tma Tlc Ttc day lim low hig thr off cre rcp pay st' gr := by
  obtain ⟨hcl, hi, hr, hrn, hh, hb, hbn, hbi, ht, hv', hE, hs⟩ := h
  have hB := hb.1.2.2.1
  exact ⟨CLr_ext hcl (o _ (by omega) (by omega)) (fun j h1 h2 => o _ (by omega) (by omega)) (fun _ _ => rfl), hi, RWr_remove hr hg e1 e2 e3 (o _ (by omega) (by omega)), NIv_remove hrn e1, HIv_remove hh hg e1, RWr_ext hb (o _ (by omega) (by omega)) (o _ (by omega) (by omega)) (fun j hj => o _ (by omega) (by omega)), hbn, hbi, TRr_ext ht (o _ (by omega) (by omega)) (o _ (by omega) (by omega)) (fun j h1 h2 => o _ (by omega) (by omega)), hv', hE, SCr_ext hs (fun j hj => o _ (by omega) (by omega))⟩
/-- the reference takes a hold out -/
theorem endsHold_i {n C R B E dn g : Nat} {Asz : Int32} {Anu : Nat → Int32} {Aba : Nat → Int32} {Amo : Nat → Int32} {Aco : Nat → Int64} {Hsz : Int32} {Hla : Int32} {Hce : Nat → Int32} {Bsz : Int32} {Bla : Int32} {Bce : Nat → Int32} {Tma : Int32} {Tlc : Int32} {Ttc : Nat → Int32} {day : Int32} {lim : Int32} {low : Int32} {hig : Int32} {thr : Int32} {off : Int64} {cre : Int64} {rcp : Int64} {pay : Int64} {st : Nat → Int32} {gr : Nat → Int64} (h : RSc n C R B E dn Asz Anu Aba Amo Aco Hsz Hla Hce Bsz Bla Bce Tma Tlc Ttc day lim low hig thr off cre rcp pay st gr) (hg : g < R) : ∃ st', fX8_endsHold st (nI g) = some st' ∧ (∀ j, j < 4 * (R - 1) → st' (48 + j) = if g * 4 ≤ j then st (48 + j + 4) else st (48 + j)) ∧ st' 6 = nI (R - 1) ∧ ∀ j, j ≠ 6 → j < 48 ∨ 108 ≤ j → st' j = st j := by
  obtain ⟨-, -, hr, -⟩ := h
  obtain ⟨rz, r6, hR, r8⟩ := hr.1
  obtain ⟨s1, t1, t2, t3⟩ := M_takesOut (b := 48) (R := R) (g := g) (by omega) hg st
  have c6 : ∀ {β : Type} (k : Option β), ckI 6 336 k = k := fun k => ckI_ok (i := 6) (by omega) (by omega)
  refine ⟨upd s1 6 (nI (R - 1)), ?_, fun j hj => ?_, upd_s _ _ _, fun j h1 h2 => ?_⟩
  · unfold fX8_endsHold
    rw [c6, show (6 : Int32).toNatClampNeg = 6 from rfl, r6, show (48 : Int32) = nI 48 from rfl, t1, bd1_s, c6, c6, lts, t2 6 (by omega), r6, show nI R - 1 = nI (R - 1) from nI_sub (b := 1) (by omega)]
  · rw [upd_n (by omega)]; exact t3 j hj
  · rw [upd_n h1]; exact t2 j (by omega)
theorem op_release {n : Nat} {Asz : Int32} {Anu : Nat → Int32} {Aba : Nat → Int32} {Amo : Nat → Int32} {Aco : Nat → Int64} {Hsz : Int32} {Hla : Int32} {Hce : Nat → Int32} {Bsz : Int32} {Bla : Int32} {Bce : Nat → Int32} {Tma : Int32} {Tlc : Int32} {Ttc : Nat → Int32} {day : Int32} {lim : Int32} {low : Int32} {hig : Int32} {thr : Int32} {off : Int64} {cre : Int64} {rcp : Int64} {pay : Int64} {st : Nat → Int32} {gr : Nat → Int64} (h : RS n Asz Anu Aba Amo Aco Hsz Hla Hce Bsz Bla Bce Tma Tlc Ttc day lim low hig thr off cre rcp pay st gr) {hi hi' : Nat → Int32} {gh gh' : Nat → Int64} {rc rc' : Int32} (hrec : fX8_record st gr hi gh rc = some (hi', gh', rc')) (p1 : Int32) :
    (∃ r : Int32, r < 0 ∧ fX5_endHold Asz Anu Aba Hsz Hce p1 = some (r, Hsz, Hce) ∧ fX8_release st gr hi gh rc p1 = some (r, st, hi, gh, rc)) ∨
    (∃ r Hsz' Hce' st', 0 ≤ r ∧ fX5_endHold Asz Anu Aba Hsz Hce p1 = some (r, Hsz', Hce') ∧ fX8_release st gr hi gh rc p1 = some (r, st', hi', gh', rc') ∧ RS n Asz Anu Aba Amo Aco Hsz' Hla Hce' Bsz Bla Bce Tma Tlc Ttc day lim low hig thr off cre rcp pay st' gr) := by
  obtain ⟨C, R, B, E, dn, h⟩ := h
  have h' := h
  obtain ⟨hc, hi, hr, hrn, hh, hb, hbn, hbi, ht, hv, hE, hs⟩ := h'
  obtain ⟨hz, h5, hC⟩ := hc.1
  obtain ⟨rz, r6, hR, r8⟩ := hr.1
  unfold fX5_endHold fX8_release
  rcases hold_both hr hrn p1 with ⟨g, f1, f2, f4, f5⟩ | ⟨f3, f4, f5⟩
  · rw [f4, bd1_s, if_pos (nI_nn (by omega)), f5, bd1_s, if_neg (nI_nm6 (by omega)), hrec, bd3_s]
    obtain ⟨⟨c, c1, c2⟩, -⟩ := hh.1 g f1
    obtain ⟨ce', x1, x2⟩ := X4_remove hR f1 Hce
    obtain ⟨st', m1, m2, m3, m4⟩ := endsHold_i h f1
    have k := RSc_rmH h f1 x2 m2 m3 m4
    obtain ⟨w1, w2, w3, w4, w5, w6, w7⟩ := whyPaid_eq k c1
    have g1 : fX4_get Hsz Hce (nI g) 1 = some (Anu c) := by rw [rz, ← c2]; exact X4_get (k := 1) f1 hR (by omega) Hce
    have g2 : fX0_find Asz Anu (Anu c) = some (nI c) := by
      rw [hz]; exact X0_find_i hC c1 rfl (fun j hj e => by have := Anu_inj hi (by omega) c1 e; omega)
    have g3 : fX8_holdPart st (nI g) 1 = some (Anu c) := by
      have e : fX8_holdPart st (nI g) 1 = _ := M_holdPart (c := g) (k := 1) (by omega) st
      rw [e, ← c2, hr.2 (g * 4 + 1) (by omega), show 48 + (g * 4 + 1) = 48 + 4 * g + 1 by omega]
    have g4 : fX8_find st' (Anu c) = some (nI c) := by
      rcases find_both k.1 k.2.1 (Anu c) with ⟨d, d1, d2, -, -, d5⟩ | ⟨d3, -⟩
      · rw [d5, Anu_inj hi d1 c1 d2]
      · exact absurd rfl (d3 c c1)
    rw [g1, bd1_s, g2, bd1_s, g3, bd1_s, m1, bd1_s, g4, bd1_s, w2, bd1_s, rz, x1, bd2_s, w1, bd1_s]
    exact Or.inr ⟨_, _, _, _, by rw [le_i, w3, toInt_0]; exact w4, rfl, rfl, ⟨C, R - 1, B, E, dn, k⟩⟩
  · rw [f4, bd1_s, if_neg (by decide), f5, bd1_s, if_pos rfl]
    exact Or.inl ⟨-1, by decide, rfl, rfl⟩
