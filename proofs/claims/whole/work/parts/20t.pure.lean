/-! the pure side, t: letting days pass -/
theorem d400_dec (p : Int32) : ((1 ≤ p.toInt ∧ p.toInt ≤ 400) ∧ ¬ p < 1 ∧ p ≤ 400 ∧ fX8_within p 1 400 = some 1) ∨ ((p < 1 ∨ ¬ p < 1 ∧ ¬ p ≤ 400) ∧ fX8_within p 1 400 = some 0) := by
  have e9 : (400 : Int32).toInt = 400 := rfl
  simp only [within_i, lt_i, le_i, toInt_1, e9]
  by_cases c : 1 ≤ p.toInt ∧ p.toInt ≤ 400
  · exact Or.inl ⟨c, by omega, by omega, by rw [if_pos c]⟩
  · exact Or.inr ⟨by omega, by rw [if_neg c]⟩
theorem op_pass {n : Nat} {Asz : Int32} {Anu : Nat → Int32} {Aba : Nat → Int32} {Amo : Nat → Int32} {Aco : Nat → Int64} {Hsz : Int32} {Hla : Int32} {Hce : Nat → Int32} {Bsz : Int32} {Bla : Int32} {Bce : Nat → Int32} {Tma : Int32} {Tlc : Int32} {Ttc : Nat → Int32} {day : Int32} {lim : Int32} {low : Int32} {hig : Int32} {thr : Int32} {off : Int64} {cre : Int64} {rcp : Int64} {pay : Int64} {st : Nat → Int32} {gr : Nat → Int64} (h : RS n Asz Anu Aba Amo Aco Hsz Hla Hce Bsz Bla Bce Tma Tlc Ttc day lim low hig thr off cre rcp pay st gr) (hn : n + 4900 < 2 ^ 31) (tb : Int32) (tk : Int64) (p1 : Int32) :
    (∃ r : Int32, r < 0 ∧ fX5_letPass Asz Anu Aba Amo Aco Hsz Hce Tma Tlc Ttc day lim low hig thr cre p1 = some (r.toInt64, Aba, Amo, Aco, Hsz, Hce, Tma, Tlc, Ttc, day, cre) ∧ fX8_whyNotPassed st p1 = some r) ∨
    (∃ r Aba' Amo' Aco' Hsz' Hce' Tma' Tlc' Ttc' day' cre' st' gr' tb' tk', 0 ≤ r.toInt ∧ r.toInt ≤ 4800000000000 ∧ fX5_letPass Asz Anu Aba Amo Aco Hsz Hce Tma Tlc Ttc day lim low hig thr cre p1 = some (r, Aba', Amo', Aco', Hsz', Hce', Tma', Tlc', Ttc', day', cre') ∧ fX8_whyNotPassed st p1 = some 0 ∧ fX8_passes st gr tb tk p1 = some (r, st', gr', tb', tk') ∧ RS (n + 4800) Asz Anu Aba' Amo' Aco' Hsz' Hla Hce' Bsz Bla Bce Tma' Tlc' Ttc' day' lim low hig thr off cre' rcp pay st' gr') := by
  obtain ⟨C, R, B, E, dn, h⟩ := h
  have h' := h
  obtain ⟨hc, hi, hr, hrn, hh, hb, hbn, hbi, ht, hv, hE, hs⟩ := h'
  obtain ⟨hz, h5, hC⟩ := hc.1
  have hR := hr.1.2.2.1
  unfold fX5_letPass fX8_whyNotPassed
  rcases d400_dec p1 with ⟨a1, a2, a3, a4⟩ | ⟨a1, a4⟩
  · have k0 : ∀ {β : Type} (k : Option β), ckI 0 336 k = k := fun k => ckI_ok (i := 0) (by omega) (by omega)
    obtain ⟨m, em, em2, em3⟩ := nneg_nI (x := p1) (by omega)
    have hdn := hs.1
    have ex : day + p1 = nI (dn + m) := by rw [hdn.1, em, nI_add]
    rw [if_neg a2, if_pos a3, a4, bd1_s, if_neg n10, k0, show (0 : Int32).toNatClampNeg = 0 from rfl, hs.2.1.1, ex, lts]
    by_cases q : nI (dn + m) ≤ 9999
    · have q' : dn + m ≤ 9999 := by rw [le_i, nI_toInt (by omega), show (9999 : Int32).toInt = 9999 from rfl] at q; omega
      rw [if_pos q, if_pos q]
      have enx : fX7_nextCreditDay day = some (nI (dn / 30 * 30 + 30)) := by
        unfold fX7_nextCreditDay
        rw [hdn.1, i32_div30 (by omega), nI_sub (by omega), lit_30, nI_add]
        exact congrArg (fun x => some (nI (x + 30))) (by omega)
      rw [hdn.1] at h
      obtain ⟨Aba', Amo', Acx', Acv', Hsz', Hce', T1, T2, T3, cre', D', st', gr', tb', tk', R', E', s, x1, x2, x3, x4, x5, x6, x7, x8⟩ := pass_L (t := dn + m) (d0 := dn) q' (by omega) cre m dn dn R E n (dn / 30 * 30 + 30) 2147483648 2147483648 Aba Amo Aco Aco Hsz Hce Tma Tlc Ttc cre st gr tb tk 0 rfl (by omega) (by omega) (by omega) (by omega) (by omega) (by omega) (by omega) (by omega) h (fun i hi => by rw [gap0])
      obtain ⟨Acg, g1, g2⟩ := grow_i hC Aba' Acx' (nI D') lim low hig (nI (dn + m))
      obtain ⟨R2, Hsz2, Hce2, s2, n1, n2, n3, n4, n5, n6, n7⟩ := endH_i (day := nI (dn + m)) (st := upd st 0 (nI (dn + m))) 0 (RWr_ext hr (upd_n (by omega)) (upd_n (by omega)) (fun j hj => upd_n (by omega))) hrn hh (upd_s _ _ _)
      obtain ⟨eR, eH⟩ := rowsL_inj (n7.trans x8.symm)
      have k := RSc_swap x6 (Aco' := Acg) (Hce' := Hce2) (fun i hi => by rw [g2 i, if_pos hi, x7 i hi]) (fun j hj => eH j (by omega))
      have eHz : Hsz2 = Hsz' := by rw [n3.1.1, x6.2.2.1.1.1, eR]
      right
      rw [← hdn.1] at x1
      refine ⟨s, Aba', Amo', Acg, Hsz2, Hce2, T1, T2, T3, nI (dn + m), cre', st', gr', tb', tk', x4.1, ?_, ?_, rfl, ?_, ⟨C, R', B, E', dn + m, ?_⟩⟩
      · have : m ≤ 400 := by omega
        have := x4.2
        omega
      · rw [enx, bd1_s, x1, bd8_s, hz, g1, bd2_s, n1, bd2_s, x3]
        have : cre + s - cre = s := by rw [Int64.add_comm, Int64.add_sub_cancel]
        rw [this]
      · unfold fX8_passes
        have ep : nI (dn + m - dn) = p1 := by rw [em]; exact congrArg nI (by omega)
        have ez : nI (dn - dn) = 0 := by rw [Nat.sub_self]; rfl
        rw [ep, ez, Int64.zero_add] at x2
        rw [x2, bd5_s]
      · rw [eHz]
        exact RSc_mono k (by omega)
    · rw [if_neg q, if_neg q]
      exact Or.inl ⟨-4, by decide, rfl, rfl⟩
  · rw [a4, bd1_s, if_pos rfl]
    refine Or.inl ⟨-2, by decide, ?_, rfl⟩
    rcases a1 with c1 | ⟨c1, c2⟩
    · rw [if_pos c1]; rfl
    · rw [if_neg c1, if_neg c2]; rfl
