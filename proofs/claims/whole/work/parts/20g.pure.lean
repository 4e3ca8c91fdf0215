/-! the pure side, g: holds and bills -/
theorem RSc_hold {n C R B E dn c : Nat} {Asz : Int32} {Anu : Nat → Int32} {Aba : Nat → Int32} {Amo : Nat → Int32} {Aco : Nat → Int64} {Hsz : Int32} {Hla : Int32} {Hce : Nat → Int32} {Bsz : Int32} {Bla : Int32} {Bce : Nat → Int32} {Tma : Int32} {Tlc : Int32} {Ttc : Nat → Int32} {day : Int32} {lim : Int32} {low : Int32} {hig : Int32} {thr : Int32} {off : Int64} {cre : Int64} {rcp : Int64} {pay : Int64} {st : Nat → Int32} {gr : Nat → Int64} (h : RSc n C R B E dn Asz Anu Aba Amo Aco Hsz Hla Hce Bsz Bla Bce Tma Tlc Ttc day lim low hig thr off cre rcp pay st gr) (hn : n + 1 < 2 ^ 31) (hR : R < 15) (hc : c < C) {v d : Int32} (hv : 1 ≤ v.toInt ∧ v.toInt ≤ 100000000) (hd : day.toInt ≤ d.toInt) (hf : hsZ Hce (Anu c) R + v.toInt ≤ (Aba c).toInt) :
    RSc (n + 1) C (R + 1) B E dn Asz Anu Aba Amo Aco (nI (R + 1)) (Hla + 1) (apR Hce R (Hla + 1) (Anu c) v d) Bsz Bla Bce Tma Tlc Ttc day lim low hig thr off cre rcp pay (upd (upd (upd (upd (upd (upd st 6 (nI (R + 1))) 8 (Hla + 1)) (48 + 4 * R) (Hla + 1)) (48 + 4 * R + 1) (Anu c)) (48 + 4 * R + 2) v) (48 + 4 * R + 3) d) gr := by
  obtain ⟨hcl, hi, hr, hrn, hh, hb, hbn, hbi, ht, hv', hE, hs⟩ := h
  have hB := hb.1.2.2.1
  have o : ∀ j, j ≠ 6 → j ≠ 8 → j < 48 ∨ 108 ≤ j → (upd (upd (upd (upd (upd (upd st 6 (nI (R + 1))) 8 (Hla + 1)) (48 + 4 * R) (Hla + 1)) (48 + 4 * R + 1) (Anu c)) (48 + 4 * R + 2) v) (48 + 4 * R + 3) d) j = st j := by
    intro j h1 h2 h3
    rw [upd_n (by omega), upd_n (by omega), upd_n (by omega), upd_n (by omega), upd_n (by omega), upd_n (by omega)]
  exact ⟨CLr_ext hcl (o _ (by omega) (by omega) (by omega)) (fun j h1 h2 => o _ (by omega) (by omega) (by omega)) (fun _ _ => rfl), hi, RWr_append hr hR (by omega) (by omega) (by omega) (by omega) _ _ _, NIv_append hrn hn _ _ _, HIv_append hh hc (fun j hj hne e => hne (Anu_inj hi hj hc e)) hv hd hf, RWr_ext hb (o _ (by omega) (by omega) (by omega)) (o _ (by omega) (by omega) (by omega)) (fun j hj => o _ (by omega) (by omega) (by omega)), NIv_mono hbn (by omega), hbi, TRr_ext ht (o _ (by omega) (by omega) (by omega)) (o _ (by omega) (by omega) (by omega)) (fun j h1 h2 => o _ (by omega) (by omega) (by omega)), hv', by omega, SCr_ext hs (fun j hj => o _ (by omega) (by omega) (by omega))⟩
theorem RSc_bill {n C R B E dn c : Nat} {Asz : Int32} {Anu : Nat → Int32} {Aba : Nat → Int32} {Amo : Nat → Int32} {Aco : Nat → Int64} {Hsz : Int32} {Hla : Int32} {Hce : Nat → Int32} {Bsz : Int32} {Bla : Int32} {Bce : Nat → Int32} {Tma : Int32} {Tlc : Int32} {Ttc : Nat → Int32} {day : Int32} {lim : Int32} {low : Int32} {hig : Int32} {thr : Int32} {off : Int64} {cre : Int64} {rcp : Int64} {pay : Int64} {st : Nat → Int32} {gr : Nat → Int64} (h : RSc n C R B E dn Asz Anu Aba Amo Aco Hsz Hla Hce Bsz Bla Bce Tma Tlc Ttc day lim low hig thr off cre rcp pay st gr) (hn : n + 1 < 2 ^ 31) (hB : B < 15) (hc : c < C) {v : Int32} (hv : 1 ≤ v.toInt ∧ v.toInt ≤ 100000000) :
    RSc (n + 1) C R (B + 1) E dn Asz Anu Aba Amo Aco Hsz Hla Hce (nI (B + 1)) (Bla + 1) (apR Bce B (Bla + 1) (Anu c) v 0) Tma Tlc Ttc day lim low hig thr off cre rcp pay (upd (upd (upd (upd (upd (upd st 7 (nI (B + 1))) 9 (Bla + 1)) (108 + 4 * B) (Bla + 1)) (108 + 4 * B + 1) (Anu c)) (108 + 4 * B + 2) v) (108 + 4 * B + 3) 0) gr := by
  obtain ⟨hcl, hi, hr, hrn, hh, hb, hbn, hbi, ht, hv', hE, hs⟩ := h
  have hR := hr.1.2.2.1
  have o : ∀ j, j ≠ 7 → j ≠ 9 → j < 108 ∨ 168 ≤ j → (upd (upd (upd (upd (upd (upd st 7 (nI (B + 1))) 9 (Bla + 1)) (108 + 4 * B) (Bla + 1)) (108 + 4 * B + 1) (Anu c)) (108 + 4 * B + 2) v) (108 + 4 * B + 3) 0) j = st j := by
    intro j h1 h2 h3
    rw [upd_n (by omega), upd_n (by omega), upd_n (by omega), upd_n (by omega), upd_n (by omega), upd_n (by omega)]
  exact ⟨CLr_ext hcl (o _ (by omega) (by omega) (by omega)) (fun j h1 h2 => o _ (by omega) (by omega) (by omega)) (fun _ _ => rfl), hi, RWr_ext hr (o _ (by omega) (by omega) (by omega)) (o _ (by omega) (by omega) (by omega)) (fun j hj => o _ (by omega) (by omega) (by omega)), NIv_mono hrn (by omega), hh, RWr_append hb hB (by omega) (by omega) (by omega) (by omega) _ _ _, NIv_append hbn hn _ _ _, BIv_append hbi hc hv, TRr_ext ht (o _ (by omega) (by omega) (by omega)) (o _ (by omega) (by omega) (by omega)) (fun j h1 h2 => o _ (by omega) (by omega) (by omega)), hv', by omega, SCr_ext hs (fun j hj => o _ (by omega) (by omega) (by omega))⟩
theorem n10 : ¬ (1 : Int32) = 0 := by decide
theorem trm_dec (p : Int32) : ((1 ≤ p.toInt ∧ p.toInt ≤ 999) ∧ ¬ p < 1 ∧ p ≤ 999 ∧ fX8_within p 1 999 = some 1) ∨ ((p < 1 ∨ ¬ p < 1 ∧ ¬ p ≤ 999) ∧ fX8_within p 1 999 = some 0) := by
  have e9 : (999 : Int32).toInt = 999 := rfl
  simp only [within_i, lt_i, le_i, toInt_1, e9]
  by_cases c : 1 ≤ p.toInt ∧ p.toInt ≤ 999
  · exact Or.inl ⟨c, by omega, by omega, by rw [if_pos c]⟩
  · exact Or.inr ⟨by omega, by rw [if_neg c]⟩
theorem op_hold {n : Nat} {Asz : Int32} {Anu : Nat → Int32} {Aba : Nat → Int32} {Amo : Nat → Int32} {Aco : Nat → Int64} {Hsz : Int32} {Hla : Int32} {Hce : Nat → Int32} {Bsz : Int32} {Bla : Int32} {Bce : Nat → Int32} {Tma : Int32} {Tlc : Int32} {Ttc : Nat → Int32} {day : Int32} {lim : Int32} {low : Int32} {hig : Int32} {thr : Int32} {off : Int64} {cre : Int64} {rcp : Int64} {pay : Int64} {st : Nat → Int32} {gr : Nat → Int64} (h : RS n Asz Anu Aba Amo Aco Hsz Hla Hce Bsz Bla Bce Tma Tlc Ttc day lim low hig thr off cre rcp pay st gr) (hn : n + 1 < 2 ^ 31) {hi hi' : Nat → Int32} {gh gh' : Nat → Int64} {rc rc' : Int32} (hrec : fX8_record st gr hi gh rc = some (hi', gh', rc')) (p1 p2 p3 : Int32) :
    (∃ r : Int32, r < 0 ∧ fX5_makeHold Asz Anu Aba Hsz Hla Hce day p1 p2 p3 = some (r, Hsz, Hla, Hce) ∧ fX8_hold st gr hi gh rc p1 p2 p3 = some (r, st, hi, gh, rc)) ∨
    (∃ r Hsz' Hla' Hce' st', 0 ≤ r ∧ fX5_makeHold Asz Anu Aba Hsz Hla Hce day p1 p2 p3 = some (r, Hsz', Hla', Hce') ∧ fX8_hold st gr hi gh rc p1 p2 p3 = some (r, st', hi', gh', rc') ∧ RS (n + 1) Asz Anu Aba Amo Aco Hsz' Hla' Hce' Bsz Bla Bce Tma Tlc Ttc day lim low hig thr off cre rcp pay st' gr) := by
  obtain ⟨C, R, B, E, dn, h⟩ := h
  have h' := h
  obtain ⟨hc, hi, hr, hrn, hh, hb, hbn, hbi, ht, hv, hE, hs⟩ := h'
  obtain ⟨hz, h5, hC⟩ := hc.1
  obtain ⟨rz, r6, hR, r8⟩ := hr.1
  unfold fX5_makeHold fX8_hold
  rcases find_both hc hi p1 with ⟨c, f1, f2, f3, f4, f5⟩ | ⟨f3, f4, f5⟩
  · rw [f4, bd1_s, if_pos (nI_nn (by omega)), f5, bd1_s, if_neg (nI_nm6 (by omega))]
    obtain ⟨w1, w2, w3, w4, w5, w6, w7⟩ := whyPaid_eq h f1
    rcases amt_dec p2 with ⟨a1, a2, a3⟩ | ⟨a1, a2, a3⟩
    · rw [a2, bd1_s, if_neg n10, a3, bd1_s, if_neg n10]
      rcases trm_dec p3 with ⟨q3, t1, t2, t3⟩ | ⟨q3, t3⟩
      · rw [if_neg t1, if_pos t2, t3, bd1_s, if_neg n10, w1, bd1_s, w2, bd1_s]
        by_cases q : p2 ≤ Aba c - hsI Hce (Anu c) R
        · have q' := le_i.mp q
          have c6 : ∀ {β : Type} (k : Option β), ckI 6 336 k = k := fun k => ckI_ok (i := 6) (by omega) (by omega)
          rw [if_pos q, if_pos q, c6, show (6 : Int32).toNatClampNeg = 6 from rfl, r6]
          by_cases qR : R = 15
          · rw [rz, qR, if_neg (by decide), if_pos (show nI 15 = 15 from rfl)]
            exact Or.inl ⟨-4, by decide, rfl, rfl⟩
          · have q15 : nI R < 15 := by rw [lt_i, nI_toInt (by omega), show (15 : Int32).toInt = 15 from rfl]; omega
            rw [rz, if_pos q15, X4_append (by omega), bd4_s, if_neg (show ¬ nI R = 15 from fun e => qR (nI_inj (a := R) (b := 15) (by omega) (by omega) e)), hrec, bd3_s]
            have hd : day.toInt ≤ (day + p3).toInt := by
              have := hs.1
              have e := nI_toInt (n := dn) (by omega)
              rw [← this.1] at e
              rw [add_toInt (by omega) (by omega)]; omega
            have k := RSc_hold h hn (by omega) f1 a1 hd (by omega)
            rw [f2] at k
            right
            refine ⟨Hla + 1, nI (R + 1), Hla + 1, _, _, ?_, rfl, ?_, ⟨C, R + 1, B, E, dn, k⟩⟩
            · have := hrn.2.2
              rw [le_i, toInt_0, add_toInt (by rw [toInt_1]; omega) (by rw [toInt_1]; omega), toInt_1]; omega
            · have c8 : ∀ {β : Type} (k : Option β), ckI 8 336 k = k := fun k => ckI_ok (i := 8) (by omega) (by omega)
              have c0 : ∀ {β : Type} (k : Option β), ckI 0 336 k = k := fun k => ckI_ok (i := 0) (by omega) (by omega)
              have x4 : (48 : Int32) + 4 * nI R = nI (48 + 4 * R) := by rw [show (48 : Int32) = nI 48 from rfl, show (4 : Int32) = nI 4 from rfl, pk_mul, nI_add]
              have ckb : ∀ {β : Type} (i : Nat) (k : Option β), i < 4 → ckI (nI (48 + 4 * R + i)) 336 k = k := fun i k hi => ckI_ok (by omega) (by omega)
              have cl : ∀ i, i < 4 → (nI (48 + 4 * R + i)).toNatClampNeg = 48 + 4 * R + i := fun i hi => nI_clamp (by omega)
              have a0 : nI (48 + 4 * R) + 0 = nI (48 + 4 * R + 0) := nI_add _ 0
              have a1 : nI (48 + 4 * R) + 1 = nI (48 + 4 * R + 1) := nI_add _ 1
              have a2 : nI (48 + 4 * R) + 2 = nI (48 + 4 * R + 2) := nI_add _ 2
              have a3 : nI (48 + 4 * R) + 3 = nI (48 + 4 * R + 3) := nI_add _ 3
              rw [c6, lts, x4, c6, c6, lts, nI_1, c8, c8, lts, show (8 : Int32).toNatClampNeg = 8 from rfl, upd_n (show 8 ≠ 6 by omega), ← r8]
              rw [c8, a0, ckb 0 _ (by omega), lts, cl 0 (by omega), upd_s, a1, ckb 1 _ (by omega), lts, cl 1 (by omega), a2, ckb 2 _ (by omega), lts, cl 2 (by omega), c0, a3, ckb 3 _ (by omega), lts, cl 3 (by omega), c8]
              rw [show (0 : Int32).toNatClampNeg = 0 from rfl, upd_n (k := 48 + 4 * R + 2) (j := 0) (by omega), upd_n (k := 48 + 4 * R + 1) (j := 0) (by omega), upd_n (k := 48 + 4 * R + 0) (j := 0) (by omega), upd_n (k := 8) (j := 0) (by omega), upd_n (k := 6) (j := 0) (by omega), hs.2.1.1]
              rw [upd_n (k := 48 + 4 * R + 3) (j := 8) (by omega), upd_n (k := 48 + 4 * R + 2) (j := 8) (by omega), upd_n (k := 48 + 4 * R + 1) (j := 8) (by omega), upd_n (k := 48 + 4 * R + 0) (j := 8) (by omega), upd_s]
              rfl
        · rw [if_neg q, if_neg q]
          exact Or.inl ⟨-3, by decide, rfl, rfl⟩
      · rw [t3, bd1_s, if_pos rfl]
        refine Or.inl ⟨-2, by decide, ?_, rfl⟩
        rcases q3 with q4 | ⟨q4, q5⟩
        · rw [if_pos q4]
        · rw [if_neg q4, if_neg q5]
    · rw [a2, bd1_s, if_pos rfl, a3, bd1_s, if_pos rfl]
      exact Or.inl ⟨-2, by decide, rfl, rfl⟩
  · rw [f4, bd1_s, if_neg (by decide), f5, bd1_s, if_pos rfl]
    exact Or.inl ⟨-1, by decide, rfl, rfl⟩
theorem op_bill {n : Nat} {Asz : Int32} {Anu : Nat → Int32} {Aba : Nat → Int32} {Amo : Nat → Int32} {Aco : Nat → Int64} {Hsz : Int32} {Hla : Int32} {Hce : Nat → Int32} {Bsz : Int32} {Bla : Int32} {Bce : Nat → Int32} {Tma : Int32} {Tlc : Int32} {Ttc : Nat → Int32} {day : Int32} {lim : Int32} {low : Int32} {hig : Int32} {thr : Int32} {off : Int64} {cre : Int64} {rcp : Int64} {pay : Int64} {st : Nat → Int32} {gr : Nat → Int64} (h : RS n Asz Anu Aba Amo Aco Hsz Hla Hce Bsz Bla Bce Tma Tlc Ttc day lim low hig thr off cre rcp pay st gr) (hn : n + 1 < 2 ^ 31) (p1 p2 : Int32) :
    (∃ r : Int32, r < 0 ∧ fX5_writeBill Asz Anu Bsz Bla Bce p1 p2 = some (r, Bsz, Bla, Bce) ∧ fX8_whyNotBilled st p1 p2 = some r) ∨
    (∃ r Bsz' Bla' Bce' st', 0 ≤ r ∧ fX5_writeBill Asz Anu Bsz Bla Bce p1 p2 = some (r, Bsz', Bla', Bce') ∧ fX8_whyNotBilled st p1 p2 = some 0 ∧ fX8_bills st p1 p2 = some (r, st') ∧ RS (n + 1) Asz Anu Aba Amo Aco Hsz Hla Hce Bsz' Bla' Bce' Tma Tlc Ttc day lim low hig thr off cre rcp pay st' gr) := by
  obtain ⟨C, R, B, E, dn, h⟩ := h
  have h' := h
  obtain ⟨hc, hi, hr, hrn, hh, hb, hbn, hbi, ht, hv, hE, hs⟩ := h'
  obtain ⟨hz, h5, hC⟩ := hc.1
  obtain ⟨bz, b7, hB, b9⟩ := hb.1
  unfold fX5_writeBill fX8_whyNotBilled
  rcases find_both hc hi p1 with ⟨c, f1, f2, f3, f4, f5⟩ | ⟨f3, f4, f5⟩
  · rw [f4, bd1_s, if_pos (nI_nn (by omega)), f5, bd1_s, if_neg (nI_nm6 (by omega))]
    rcases amt_dec p2 with ⟨a1, a2, a3⟩ | ⟨a1, a2, a3⟩
    · have c7 : ∀ {β : Type} (k : Option β), ckI 7 336 k = k := fun k => ckI_ok (i := 7) (by omega) (by omega)
      rw [a2, bd1_s, if_neg n10, a3, bd1_s, if_neg n10, c7, show (7 : Int32).toNatClampNeg = 7 from rfl, b7]
      by_cases qR : B = 15
      · rw [bz, qR, if_neg (by decide), if_pos (show nI 15 = 15 from rfl)]
        exact Or.inl ⟨-4, by decide, rfl, rfl⟩
      · have q15 : nI B < 15 := by rw [lt_i, nI_toInt (by omega), show (15 : Int32).toInt = 15 from rfl]; omega
        rw [bz, if_pos q15, X4_append (by omega), bd4_s, if_neg (show ¬ nI B = 15 from fun e => qR (nI_inj (a := B) (b := 15) (by omega) (by omega) e))]
        have k := RSc_bill h hn (by omega) f1 a1
        rw [f2] at k
        right
        refine ⟨Bla + 1, nI (B + 1), Bla + 1, _, _, ?_, rfl, rfl, ?_, ⟨C, R, B + 1, E, dn, k⟩⟩
        · have := hbn.2.2
          rw [le_i, toInt_0, add_toInt (by rw [toInt_1]; omega) (by rw [toInt_1]; omega), toInt_1]; omega
        · have c9 : ∀ {β : Type} (k : Option β), ckI 9 336 k = k := fun k => ckI_ok (i := 9) (by omega) (by omega)
          have x4 : (108 : Int32) + 4 * nI B = nI (108 + 4 * B) := by rw [show (108 : Int32) = nI 108 from rfl, show (4 : Int32) = nI 4 from rfl, pk_mul, nI_add]
          have ckb : ∀ {β : Type} (i : Nat) (k : Option β), i < 4 → ckI (nI (108 + 4 * B + i)) 336 k = k := fun i k hi => ckI_ok (by omega) (by omega)
          have cl : ∀ i, i < 4 → (nI (108 + 4 * B + i)).toNatClampNeg = 108 + 4 * B + i := fun i hi => nI_clamp (by omega)
          have a0 : nI (108 + 4 * B) + 0 = nI (108 + 4 * B + 0) := nI_add _ 0
          have a1 : nI (108 + 4 * B) + 1 = nI (108 + 4 * B + 1) := nI_add _ 1
          have a2 : nI (108 + 4 * B) + 2 = nI (108 + 4 * B + 2) := nI_add _ 2
          have a3 : nI (108 + 4 * B) + 3 = nI (108 + 4 * B + 3) := nI_add _ 3
          unfold fX8_bills
          rw [c7, lts, show (7 : Int32).toNatClampNeg = 7 from rfl, b7, x4, c7, c7, lts, nI_1, c9, c9, lts, show (9 : Int32).toNatClampNeg = 9 from rfl, upd_n (show 9 ≠ 7 by omega), ← b9]
          rw [c9, a0, ckb 0 _ (by omega), lts, cl 0 (by omega), upd_s, a1, ckb 1 _ (by omega), lts, cl 1 (by omega), a2, ckb 2 _ (by omega), lts, cl 2 (by omega), a3, ckb 3 _ (by omega), lts, cl 3 (by omega), c9]
          rw [upd_n (k := 108 + 4 * B + 3) (j := 9) (by omega), upd_n (k := 108 + 4 * B + 2) (j := 9) (by omega), upd_n (k := 108 + 4 * B + 1) (j := 9) (by omega), upd_n (k := 108 + 4 * B + 0) (j := 9) (by omega), upd_s]
          rfl
    · rw [a2, bd1_s, if_pos rfl, a3, bd1_s, if_pos rfl]
      exact Or.inl ⟨-2, by decide, rfl, rfl⟩
  · rw [f4, bd1_s, if_neg (by decide), f5, bd1_s, if_pos rfl]
    exact Or.inl ⟨-1, by decide, rfl, rfl⟩
