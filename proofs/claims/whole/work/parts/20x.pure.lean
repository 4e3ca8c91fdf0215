/-! the pure side, x: ranks -/
def keyF (Anu Aba Amo : Nat → Int32) (Hce : Nat → Int32) (R : Nat) (p : Int32) (c : Nat) : Int32 := if p = 1 then -(Aba c) else if p = 2 then Aba c - hsI Hce (Anu c) R else if p = 3 then Amo c else 0
theorem key_i {n C R B E dn c : Nat} {Asz : Int32} {Anu : Nat → Int32} {Aba : Nat → Int32} {Amo : Nat → Int32} {Aco : Nat → Int64} {Hsz : Int32} {Hla : Int32} {Hce : Nat → Int32} {Bsz : Int32} {Bla : Int32} {Bce : Nat → Int32} {Tma : Int32} {Tlc : Int32} {Ttc : Nat → Int32} {day : Int32} {lim : Int32} {low : Int32} {hig : Int32} {thr : Int32} {off : Int64} {cre : Int64} {rcp : Int64} {pay : Int64} {st : Nat → Int32} {gr : Nat → Int64} (h : RSc n C R B E dn Asz Anu Aba Amo Aco Hsz Hla Hce Bsz Bla Bce Tma Tlc Ttc day lim low hig thr off cre rcp pay st gr) (hlt : c < C) (p : Int32) : fX3_keyOf Asz Anu Aba Amo Hsz Hce p (nI c) = some (keyF Anu Aba Amo Hce R p c) := by
  obtain ⟨w1, -⟩ := whyPaid_eq h hlt
  obtain ⟨hz, h5, hC⟩ := h.1.1
  unfold fX3_keyOf keyF
  by_cases c1 : p = 1
  · rw [if_pos c1, if_pos c1, hz, X0_balanceAt hlt hC, bd1_s]
  · rw [if_neg c1, if_neg c1]
    by_cases c2 : p = 2
    · rw [if_pos c2, if_pos c2, w1, bd1_s]
    · rw [if_neg c2, if_neg c2]
      by_cases c3 : p = 3
      · rw [if_pos c3, if_pos c3, hz, X0_movedAt hlt hC, bd1_s]
      · rw [if_neg c3, if_neg c3]
