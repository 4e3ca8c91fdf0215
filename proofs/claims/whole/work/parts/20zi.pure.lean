/-! the pure side, zi: one order carried out -/
theorem up_neg {r : Int32} (h : r < 0) : r.toInt64.toInt < 0 := by rw [up64]; rw [lt_i, toInt_0] at h; exact h
theorem up_nn {r : Int32} (h : 0 ≤ r) : 0 ≤ r.toInt64.toInt := by rw [up64]; rw [le_i, toInt_0] at h; exact h
theorem neg_n0 {r : Int32} (h : r < 0) : ¬ r = 0 := fun q => by rw [q] at h; revert h; decide
theorem op_order {n : Nat} {Asz : Int32} {Anu : Nat → Int32} {Aba : Nat → Int32} {Amo : Nat → Int32} {Aco : Nat → Int64} {Hsz : Int32} {Hla : Int32} {Hce : Nat → Int32} {Bsz : Int32} {Bla : Int32} {Bce : Nat → Int32} {Tma : Int32} {Tlc : Int32} {Ttc : Nat → Int32} {day : Int32} {lim : Int32} {low : Int32} {hig : Int32} {thr : Int32} {off : Int64} {cre : Int64} {rcp : Int64} {pay : Int64} {st : Nat → Int32} {gr : Nat → Int64} (h : RS n Asz Anu Aba Amo Aco Hsz Hla Hce Bsz Bla Bce Tma Tlc Ttc day lim low hig thr off cre rcp pay st gr) (hn : n + 4900 < 2 ^ 31) (tb : Int32) (tk : Int64) {c v1 v2 v3 o t hh : Int32} (hm : OMo c v1 v2 v3 o t hh) :
    (∃ r : Int64, r.toInt < 0 ∧ fX7_carryOutOrder c v1 v2 v3 Asz Anu Aba Amo Aco Hsz Hce Bsz Bla Bce Tma Tlc Ttc day lim low hig thr off cre rcp pay = some (r, Aba, Amo, Aco, Hsz, Hce, Bsz, Bla, Bce, Tma, Tlc, Ttc, day, off, cre, rcp, pay) ∧ ∃ r' : Int32, ¬ r' = 0 ∧ fX8_whyNotDone st c o t hh = some r') ∨
    (∃ (r : Int64) (Aba' : Nat → Int32) (Amo' : Nat → Int32) (Aco' : Nat → Int64) (Hsz' : Int32) (Hce' : Nat → Int32) (Bsz' : Int32) (Bla' : Int32) (Bce' : Nat → Int32) (Tma' : Int32) (Tlc' : Int32) (Ttc' : Nat → Int32) (day' : Int32) (off' : Int64) (cre' : Int64) (rcp' : Int64) (pay' : Int64) (st' : Nat → Int32) (gr' : Nat → Int64) (tb' : Int32) (tk' : Int64), 0 ≤ r.toInt ∧ fX7_carryOutOrder c v1 v2 v3 Asz Anu Aba Amo Aco Hsz Hce Bsz Bla Bce Tma Tlc Ttc day lim low hig thr off cre rcp pay = some (r, Aba', Amo', Aco', Hsz', Hce', Bsz', Bla', Bce', Tma', Tlc', Ttc', day', off', cre', rcp', pay') ∧ fX8_whyNotDone st c o t hh = some 0 ∧ fX8_does st gr tb tk c o t hh = some (st', gr', tb', tk') ∧ RS (n + 4800) Asz Anu Aba' Amo' Aco' Hsz' Hla Hce' Bsz' Bla' Bce' Tma' Tlc' Ttc' day' lim low hig thr off' cre' rcp' pay' st' gr') := by
  rcases hm with ⟨hl, ho⟩ | ⟨hl, ho, hth⟩ | ⟨hl, ho, htw, hth⟩
  · subst ho
    rcases hl with hl | hl
    · subst hl
      rcases op_settle h (by omega) o with ⟨r, g1, g2, g3⟩ | ⟨r, Aba', Amo', Bsz', Bce', Tma', Tlc', Ttc', off', st', gr', g1, g2, g3, g4, g5⟩
      · refine Or.inl ⟨r.toInt64, up_neg g1, ?_, r, neg_n0 g1, ?_⟩
        · unfold fX7_carryOutOrder
          rw [if_neg (show ¬ (115 : Int32) = 98 by decide), if_neg (show ¬ (115 : Int32) = 99 by decide), if_neg (show ¬ (115 : Int32) = 100 by decide), if_neg (show ¬ (115 : Int32) = 101 by decide), if_neg (show ¬ (115 : Int32) = 102 by decide), if_neg (show ¬ (115 : Int32) = 103 by decide), if_neg (show ¬ (115 : Int32) = 104 by decide), if_neg (show ¬ (115 : Int32) = 105 by decide), if_neg (show ¬ (115 : Int32) = 106 by decide), if_neg (show ¬ (115 : Int32) = 107 by decide), if_neg (show ¬ (115 : Int32) = 108 by decide), if_neg (show ¬ (115 : Int32) = 109 by decide), if_neg (show ¬ (115 : Int32) = 110 by decide), if_neg (show ¬ (115 : Int32) = 111 by decide), if_neg (show ¬ (115 : Int32) = 112 by decide), if_neg (show ¬ (115 : Int32) = 113 by decide), if_neg (show ¬ (115 : Int32) = 114 by decide), if_pos rfl, g2, bd9_s]
        · unfold fX8_whyNotDone
          rw [if_neg (show ¬ (115 : Int32) = 98 by decide), if_neg (show ¬ (115 : Int32) = 112 by decide), if_neg (show ¬ (115 : Int32) = 114 by decide), if_pos rfl, g3, bd1_s]
      · refine Or.inr ⟨r.toInt64, Aba', Amo', Aco, Hsz, Hce, Bsz', Bla, Bce', Tma', Tlc', Ttc', day, off', cre, rcp, pay, st', gr', tb, tk, (up_nn g1), ?_, ?_, ?_, RS_mono g5 (by omega)⟩
        · unfold fX7_carryOutOrder
          rw [if_neg (show ¬ (115 : Int32) = 98 by decide), if_neg (show ¬ (115 : Int32) = 99 by decide), if_neg (show ¬ (115 : Int32) = 100 by decide), if_neg (show ¬ (115 : Int32) = 101 by decide), if_neg (show ¬ (115 : Int32) = 102 by decide), if_neg (show ¬ (115 : Int32) = 103 by decide), if_neg (show ¬ (115 : Int32) = 104 by decide), if_neg (show ¬ (115 : Int32) = 105 by decide), if_neg (show ¬ (115 : Int32) = 106 by decide), if_neg (show ¬ (115 : Int32) = 107 by decide), if_neg (show ¬ (115 : Int32) = 108 by decide), if_neg (show ¬ (115 : Int32) = 109 by decide), if_neg (show ¬ (115 : Int32) = 110 by decide), if_neg (show ¬ (115 : Int32) = 111 by decide), if_neg (show ¬ (115 : Int32) = 112 by decide), if_neg (show ¬ (115 : Int32) = 113 by decide), if_neg (show ¬ (115 : Int32) = 114 by decide), if_pos rfl, g2, bd9_s]
        · unfold fX8_whyNotDone
          rw [if_neg (show ¬ (115 : Int32) = 98 by decide), if_neg (show ¬ (115 : Int32) = 112 by decide), if_neg (show ¬ (115 : Int32) = 114 by decide), if_pos rfl, g3, bd1_s]
        · unfold fX8_does
          rw [if_neg (show ¬ (115 : Int32) = 98 by decide), if_neg (show ¬ (115 : Int32) = 112 by decide), if_neg (show ¬ (115 : Int32) = 114 by decide), if_pos rfl, g4, bd3_s]
    · subst hl
      rcases op_pass h (by omega) tb tk o with ⟨r, g1, g2, g3⟩ | ⟨r, Aba', Amo', Aco', Hsz', Hce', Tma', Tlc', Ttc', day', cre', st', gr', tb', tk', g1, g9, g2, g3, g4, g5⟩
      · refine Or.inl ⟨r.toInt64, up_neg g1, ?_, r, neg_n0 g1, ?_⟩
        · unfold fX7_carryOutOrder
          rw [if_neg (show ¬ (100 : Int32) = 98 by decide), if_neg (show ¬ (100 : Int32) = 99 by decide), if_pos rfl, g2, bd11_s]
        · unfold fX8_whyNotDone
          rw [if_neg (show ¬ (100 : Int32) = 98 by decide), if_neg (show ¬ (100 : Int32) = 112 by decide), if_neg (show ¬ (100 : Int32) = 114 by decide), if_neg (show ¬ (100 : Int32) = 115 by decide), if_neg (show ¬ (100 : Int32) = 116 by decide), g3, bd1_s]
      · refine Or.inr ⟨r, Aba', Amo', Aco', Hsz', Hce', Bsz, Bla, Bce, Tma', Tlc', Ttc', day', off, cre', rcp, pay, st', gr', tb', tk', g1, ?_, ?_, ?_, RS_mono g5 (by omega)⟩
        · unfold fX7_carryOutOrder
          rw [if_neg (show ¬ (100 : Int32) = 98 by decide), if_neg (show ¬ (100 : Int32) = 99 by decide), if_pos rfl, g2, bd11_s]
        · unfold fX8_whyNotDone
          rw [if_neg (show ¬ (100 : Int32) = 98 by decide), if_neg (show ¬ (100 : Int32) = 112 by decide), if_neg (show ¬ (100 : Int32) = 114 by decide), if_neg (show ¬ (100 : Int32) = 115 by decide), if_neg (show ¬ (100 : Int32) = 116 by decide), g3, bd1_s]
        · unfold fX8_does
          rw [if_neg (show ¬ (100 : Int32) = 98 by decide), if_neg (show ¬ (100 : Int32) = 112 by decide), if_neg (show ¬ (100 : Int32) = 114 by decide), if_neg (show ¬ (100 : Int32) = 115 by decide), if_neg (show ¬ (100 : Int32) = 116 by decide), g4, bd5_s]
  · subst ho hth
    rcases hl with hl | hl | hl
    · subst hl
      rcases op_receive h (by omega) o hh with ⟨r, g1, g2, g3⟩ | ⟨r, Aba', Amo', Tma', Tlc', Ttc', rcp', st', gr', g1, g2, g3, g4, g5⟩
      · refine Or.inl ⟨r.toInt64, up_neg g1, ?_, r, neg_n0 g1, ?_⟩
        · unfold fX7_carryOutOrder
          rw [if_neg (show ¬ (114 : Int32) = 98 by decide), if_neg (show ¬ (114 : Int32) = 99 by decide), if_neg (show ¬ (114 : Int32) = 100 by decide), if_neg (show ¬ (114 : Int32) = 101 by decide), if_neg (show ¬ (114 : Int32) = 102 by decide), if_neg (show ¬ (114 : Int32) = 103 by decide), if_neg (show ¬ (114 : Int32) = 104 by decide), if_neg (show ¬ (114 : Int32) = 105 by decide), if_neg (show ¬ (114 : Int32) = 106 by decide), if_neg (show ¬ (114 : Int32) = 107 by decide), if_neg (show ¬ (114 : Int32) = 108 by decide), if_neg (show ¬ (114 : Int32) = 109 by decide), if_neg (show ¬ (114 : Int32) = 110 by decide), if_neg (show ¬ (114 : Int32) = 111 by decide), if_neg (show ¬ (114 : Int32) = 112 by decide), if_neg (show ¬ (114 : Int32) = 113 by decide), if_pos rfl, g2, bd7_s]
        · unfold fX8_whyNotDone
          rw [if_neg (show ¬ (114 : Int32) = 98 by decide), if_neg (show ¬ (114 : Int32) = 112 by decide), if_pos rfl, g3, bd1_s]
      · refine Or.inr ⟨r.toInt64, Aba', Amo', Aco, Hsz, Hce, Bsz, Bla, Bce, Tma', Tlc', Ttc', day, off, cre, rcp', pay, st', gr', tb, tk, (up_nn g1), ?_, ?_, ?_, RS_mono g5 (by omega)⟩
        · unfold fX7_carryOutOrder
          rw [if_neg (show ¬ (114 : Int32) = 98 by decide), if_neg (show ¬ (114 : Int32) = 99 by decide), if_neg (show ¬ (114 : Int32) = 100 by decide), if_neg (show ¬ (114 : Int32) = 101 by decide), if_neg (show ¬ (114 : Int32) = 102 by decide), if_neg (show ¬ (114 : Int32) = 103 by decide), if_neg (show ¬ (114 : Int32) = 104 by decide), if_neg (show ¬ (114 : Int32) = 105 by decide), if_neg (show ¬ (114 : Int32) = 106 by decide), if_neg (show ¬ (114 : Int32) = 107 by decide), if_neg (show ¬ (114 : Int32) = 108 by decide), if_neg (show ¬ (114 : Int32) = 109 by decide), if_neg (show ¬ (114 : Int32) = 110 by decide), if_neg (show ¬ (114 : Int32) = 111 by decide), if_neg (show ¬ (114 : Int32) = 112 by decide), if_neg (show ¬ (114 : Int32) = 113 by decide), if_pos rfl, g2, bd7_s]
        · unfold fX8_whyNotDone
          rw [if_neg (show ¬ (114 : Int32) = 98 by decide), if_neg (show ¬ (114 : Int32) = 112 by decide), if_pos rfl, g3, bd1_s]
        · unfold fX8_does
          rw [if_neg (show ¬ (114 : Int32) = 98 by decide), if_neg (show ¬ (114 : Int32) = 112 by decide), if_pos rfl, g4, bd3_s]
    · subst hl
      rcases op_pay h (by omega) o hh with ⟨r, g1, g2, g3⟩ | ⟨r, Aba', Amo', Tma', Tlc', Ttc', pay', st', gr', g1, g2, g3, g4, g5⟩
      · refine Or.inl ⟨r.toInt64, up_neg g1, ?_, r, neg_n0 g1, ?_⟩
        · unfold fX7_carryOutOrder
          rw [if_neg (show ¬ (112 : Int32) = 98 by decide), if_neg (show ¬ (112 : Int32) = 99 by decide), if_neg (show ¬ (112 : Int32) = 100 by decide), if_neg (show ¬ (112 : Int32) = 101 by decide), if_neg (show ¬ (112 : Int32) = 102 by decide), if_neg (show ¬ (112 : Int32) = 103 by decide), if_neg (show ¬ (112 : Int32) = 104 by decide), if_neg (show ¬ (112 : Int32) = 105 by decide), if_neg (show ¬ (112 : Int32) = 106 by decide), if_neg (show ¬ (112 : Int32) = 107 by decide), if_neg (show ¬ (112 : Int32) = 108 by decide), if_neg (show ¬ (112 : Int32) = 109 by decide), if_neg (show ¬ (112 : Int32) = 110 by decide), if_neg (show ¬ (112 : Int32) = 111 by decide), if_pos rfl, g2, bd7_s]
        · unfold fX8_whyNotDone
          rw [if_neg (show ¬ (112 : Int32) = 98 by decide), if_pos rfl, g3, bd1_s]
      · refine Or.inr ⟨r.toInt64, Aba', Amo', Aco, Hsz, Hce, Bsz, Bla, Bce, Tma', Tlc', Ttc', day, off, cre, rcp, pay', st', gr', tb, tk, (up_nn g1), ?_, ?_, ?_, RS_mono g5 (by omega)⟩
        · unfold fX7_carryOutOrder
          rw [if_neg (show ¬ (112 : Int32) = 98 by decide), if_neg (show ¬ (112 : Int32) = 99 by decide), if_neg (show ¬ (112 : Int32) = 100 by decide), if_neg (show ¬ (112 : Int32) = 101 by decide), if_neg (show ¬ (112 : Int32) = 102 by decide), if_neg (show ¬ (112 : Int32) = 103 by decide), if_neg (show ¬ (112 : Int32) = 104 by decide), if_neg (show ¬ (112 : Int32) = 105 by decide), if_neg (show ¬ (112 : Int32) = 106 by decide), if_neg (show ¬ (112 : Int32) = 107 by decide), if_neg (show ¬ (112 : Int32) = 108 by decide), if_neg (show ¬ (112 : Int32) = 109 by decide), if_neg (show ¬ (112 : Int32) = 110 by decide), if_neg (show ¬ (112 : Int32) = 111 by decide), if_pos rfl, g2, bd7_s]
        · unfold fX8_whyNotDone
          rw [if_neg (show ¬ (112 : Int32) = 98 by decide), if_pos rfl, g3, bd1_s]
        · unfold fX8_does
          rw [if_neg (show ¬ (112 : Int32) = 98 by decide), if_pos rfl, g4, bd3_s]
    · subst hl
      rcases op_bill h (by omega) o hh with ⟨r, g1, g2, g3⟩ | ⟨r, Bsz', Bla', Bce', st', g1, g2, g3, g4, g5⟩
      · refine Or.inl ⟨r.toInt64, up_neg g1, ?_, r, neg_n0 g1, ?_⟩
        · unfold fX7_carryOutOrder
          rw [if_pos rfl, g2, bd4_s]
        · unfold fX8_whyNotDone
          rw [if_pos rfl, g3, bd1_s]
      · refine Or.inr ⟨r.toInt64, Aba, Amo, Aco, Hsz, Hce, Bsz', Bla', Bce', Tma, Tlc, Ttc, day, off, cre, rcp, pay, st', gr, tb, tk, (up_nn g1), ?_, ?_, ?_, RS_mono g5 (by omega)⟩
        · unfold fX7_carryOutOrder
          rw [if_pos rfl, g2, bd4_s]
        · unfold fX8_whyNotDone
          rw [if_pos rfl, g3, bd1_s]
        · unfold fX8_does
          rw [if_pos rfl, g4, bd2_s]
  · subst hl ho htw hth
    rcases op_transfer h (by omega) o t hh with ⟨r, g1, g2, g3⟩ | ⟨r, Aba', Amo', Tma', Tlc', Ttc', st', g1, g2, g3, g4, g5⟩
    · refine Or.inl ⟨r.toInt64, up_neg g1, ?_, r, neg_n0 g1, ?_⟩
      · unfold fX7_carryOutOrder
        rw [if_neg (show ¬ (116 : Int32) = 98 by decide), if_neg (show ¬ (116 : Int32) = 99 by decide), if_neg (show ¬ (116 : Int32) = 100 by decide), if_neg (show ¬ (116 : Int32) = 101 by decide), if_neg (show ¬ (116 : Int32) = 102 by decide), if_neg (show ¬ (116 : Int32) = 103 by decide), if_neg (show ¬ (116 : Int32) = 104 by decide), if_neg (show ¬ (116 : Int32) = 105 by decide), if_neg (show ¬ (116 : Int32) = 106 by decide), if_neg (show ¬ (116 : Int32) = 107 by decide), if_neg (show ¬ (116 : Int32) = 108 by decide), if_neg (show ¬ (116 : Int32) = 109 by decide), if_neg (show ¬ (116 : Int32) = 110 by decide), if_neg (show ¬ (116 : Int32) = 111 by decide), if_neg (show ¬ (116 : Int32) = 112 by decide), if_neg (show ¬ (116 : Int32) = 113 by decide), if_neg (show ¬ (116 : Int32) = 114 by decide), if_neg (show ¬ (116 : Int32) = 115 by decide), if_pos rfl, g2, bd6_s]
      · unfold fX8_whyNotDone
        rw [if_neg (show ¬ (116 : Int32) = 98 by decide), if_neg (show ¬ (116 : Int32) = 112 by decide), if_neg (show ¬ (116 : Int32) = 114 by decide), if_neg (show ¬ (116 : Int32) = 115 by decide), if_pos rfl, g3, bd1_s]
    · refine Or.inr ⟨r.toInt64, Aba', Amo', Aco, Hsz, Hce, Bsz, Bla, Bce, Tma', Tlc', Ttc', day, off, cre, rcp, pay, st', gr, tb, tk, (up_nn g1), ?_, ?_, ?_, RS_mono g5 (by omega)⟩
      · unfold fX7_carryOutOrder
        rw [if_neg (show ¬ (116 : Int32) = 98 by decide), if_neg (show ¬ (116 : Int32) = 99 by decide), if_neg (show ¬ (116 : Int32) = 100 by decide), if_neg (show ¬ (116 : Int32) = 101 by decide), if_neg (show ¬ (116 : Int32) = 102 by decide), if_neg (show ¬ (116 : Int32) = 103 by decide), if_neg (show ¬ (116 : Int32) = 104 by decide), if_neg (show ¬ (116 : Int32) = 105 by decide), if_neg (show ¬ (116 : Int32) = 106 by decide), if_neg (show ¬ (116 : Int32) = 107 by decide), if_neg (show ¬ (116 : Int32) = 108 by decide), if_neg (show ¬ (116 : Int32) = 109 by decide), if_neg (show ¬ (116 : Int32) = 110 by decide), if_neg (show ¬ (116 : Int32) = 111 by decide), if_neg (show ¬ (116 : Int32) = 112 by decide), if_neg (show ¬ (116 : Int32) = 113 by decide), if_neg (show ¬ (116 : Int32) = 114 by decide), if_neg (show ¬ (116 : Int32) = 115 by decide), if_pos rfl, g2, bd6_s]
      · unfold fX8_whyNotDone
        rw [if_neg (show ¬ (116 : Int32) = 98 by decide), if_neg (show ¬ (116 : Int32) = 112 by decide), if_neg (show ¬ (116 : Int32) = 114 by decide), if_neg (show ¬ (116 : Int32) = 115 by decide), if_pos rfl, g3, bd1_s]
      · unfold fX8_does
        rw [if_neg (show ¬ (116 : Int32) = 98 by decide), if_neg (show ¬ (116 : Int32) = 112 by decide), if_neg (show ¬ (116 : Int32) = 114 by decide), if_neg (show ¬ (116 : Int32) = 115 by decide), if_pos rfl, g4, bd2_s]
