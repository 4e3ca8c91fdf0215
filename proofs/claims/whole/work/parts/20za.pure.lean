/-! the pure side, za: the digest, sums -/
theorem sumOf_i {n : Nat} {Asz : Int32} {Anu : Nat → Int32} {Aba : Nat → Int32} {Amo : Nat → Int32} {Aco : Nat → Int64} {Hsz : Int32} {Hla : Int32} {Hce : Nat → Int32} {Bsz : Int32} {Bla : Int32} {Bce : Nat → Int32} {Tma : Int32} {Tlc : Int32} {Ttc : Nat → Int32} {day : Int32} {lim : Int32} {low : Int32} {hig : Int32} {thr : Int32} {off : Int64} {cre : Int64} {rcp : Int64} {pay : Int64} {st : Nat → Int32} {gr : Nat → Int64} (h : RS n Asz Anu Aba Amo Aco Hsz Hla Hce Bsz Bla Bce Tma Tlc Ttc day lim low hig thr off cre rcp pay st gr) {p : Int32} (hp : 0 ≤ p.toInt ∧ p.toInt ≤ 5) : ∃ r, fX7_sum Asz Aba Hsz Hce off cre rcp pay p = some r ∧ fX8_sumOf st gr p = some r := by
  obtain ⟨r, r1, r2⟩ := q_sum h p
  refine ⟨r, r1, ?_⟩
  have w : fX8_within p 0 5 = some 1 := by
    rw [within_i, if_pos (by rw [toInt_0, show (5 : Int32).toInt = 5 from rfl]; exact hp)]
  unfold fX8_sum at r2
  rw [w, bd1_s, if_neg n10] at r2
  cases e : fX8_sumOf st gr p with
  | none => rw [e] at r2; exact absurd r2 (by intro z; cases z)
  | some x => rw [e, bd1_s] at r2; exact r2
theorem dg_sums {n : Nat} {Asz : Int32} {Anu : Nat → Int32} {Aba : Nat → Int32} {Amo : Nat → Int32} {Aco : Nat → Int64} {Hsz : Int32} {Hla : Int32} {Hce : Nat → Int32} {Bsz : Int32} {Bla : Int32} {Bce : Nat → Int32} {Tma : Int32} {Tlc : Int32} {Ttc : Nat → Int32} {day : Int32} {lim : Int32} {low : Int32} {hig : Int32} {thr : Int32} {off : Int64} {cre : Int64} {rcp : Int64} {pay : Int64} {st : Nat → Int32} {gr : Nat → Int64} (h : RS n Asz Anu Aba Amo Aco Hsz Hla Hce Bsz Bla Bce Tma Tlc Ttc day lim low hig thr off cre rcp pay st gr) : ∀ (k z : Nat) (a : Int64), z ≤ 6 → 6 - z < k → ∃ r, fX7_digest_L75 Asz Aba Hsz Hce off cre rcp pay k a (nI z) = some r ∧ fX8_digest_L304 st gr k a (nI z) = some r := by
  intro k
  induction k with
  | zero => intro z a h1 h2; omega
  | succ k ih =>
    intro z a h1 h2
    rw [fX7_digest_L75, fX8_digest_L304]
    by_cases e : z = 6
    · subst e
      rw [if_pos (by decide), if_pos (by decide)]
      exact ⟨a, rfl, rfl⟩
    · have n5 : ¬ (5 : Int32) < nI z := fun q => by rw [lt_i, nI_toInt (by omega), show (5 : Int32).toInt = 5 from rfl] at q; omega
      obtain ⟨v, v1, v2⟩ := sumOf_i h (p := nI z) (by rw [nI_toInt (by omega)]; omega)
      rw [if_neg n5, if_neg n5, v1, bd1_s, v2, bd1_s, lts, lts, nI_1]
      exact ih (z + 1) _ (by omega) (by omega)
