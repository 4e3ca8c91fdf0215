/-! the pure side, y: the digest -/
theorem dg_in {n C R B E dn c : Nat} {Asz : Int32} {Anu : Nat → Int32} {Aba : Nat → Int32} {Amo : Nat → Int32} {Aco : Nat → Int64} {Hsz : Int32} {Hla : Int32} {Hce : Nat → Int32} {Bsz : Int32} {Bla : Int32} {Bce : Nat → Int32} {Tma : Int32} {Tlc : Int32} {Ttc : Nat → Int32} {day : Int32} {lim : Int32} {low : Int32} {hig : Int32} {thr : Int32} {off : Int64} {cre : Int64} {rcp : Int64} {pay : Int64} {st : Nat → Int32} {gr : Nat → Int64} (h : RSc n C R B E dn Asz Anu Aba Amo Aco Hsz Hla Hce Bsz Bla Bce Tma Tlc Ttc day lim low hig thr off cre rcp pay st gr) (hlt : c < C) : ∀ (k z : Nat) (a : Int64), z ≤ 8 → 8 - z < k → ∃ r, fX7_hashOfClients_L43 Asz Anu Aba Amo Aco Hsz Hce Bsz Bce (nI c) k a (nI z) = some r ∧ fX8_digest_L61 st gr (nI c) k a (nI z) = some r := by
  intro k
  induction k with
  | zero => intro z a h1 h2; omega
  | succ k ih =>
    intro z a h1 h2
    rw [fX7_hashOfClients_L43, fX8_digest_L61]
    by_cases e : z = 8
    · subst e
      rw [if_pos (by decide), if_pos (by decide)]
      exact ⟨a, rfl, rfl⟩
    · have n7 : ¬ (7 : Int32) < nI z := fun q => by rw [lt_i, nI_toInt (by omega), show (7 : Int32).toInt = 7 from rfl] at q; omega
      obtain ⟨v, v1, v2⟩ := about_i h hlt (nI z) (by rw [nI_toInt (by omega)]; omega)
      rw [if_neg n7, if_neg n7, v1, bd1_s, v2, bd1_s, lts, lts, nI_1]
      exact ih (z + 1) _ (by omega) (by omega)
theorem dg_clients {n C R B E dn : Nat} {Asz : Int32} {Anu : Nat → Int32} {Aba : Nat → Int32} {Amo : Nat → Int32} {Aco : Nat → Int64} {Hsz : Int32} {Hla : Int32} {Hce : Nat → Int32} {Bsz : Int32} {Bla : Int32} {Bce : Nat → Int32} {Tma : Int32} {Tlc : Int32} {Ttc : Nat → Int32} {day : Int32} {lim : Int32} {low : Int32} {hig : Int32} {thr : Int32} {off : Int64} {cre : Int64} {rcp : Int64} {pay : Int64} {st : Nat → Int32} {gr : Nat → Int64} (h : RSc n C R B E dn Asz Anu Aba Amo Aco Hsz Hla Hce Bsz Bla Bce Tma Tlc Ttc day lim low hig thr off cre rcp pay st gr) : ∀ (k z : Nat) (a : Int64), z ≤ C → C - z < k → ∃ r, fX7_hashOfClients_L5 Asz Anu Aba Amo Aco Hsz Hce Bsz Bce k a (nI z) = some r ∧ fX8_digest_L34 st gr k a (nI z) = some r := by
  obtain ⟨hz, h5, hC⟩ := h.1.1
  intro k
  induction k with
  | zero => intro z a h1 h2; omega
  | succ k ih =>
    intro z a h1 h2
    rw [fX7_hashOfClients_L5, fX8_digest_L34, show ckI 5 336 _ = _ from ckI_ok (i := 5) (by omega) (by omega), show (5 : Int32).toNatClampNeg = 5 from rfl, h5]
    by_cases e : z = C
    · subst e
      rw [if_pos (by rw [hz]; exact nI_le (by omega) (by omega)), if_pos (nI_le (by omega) (by omega))]
      exact ⟨a, rfl, rfl⟩
    · have p0 : fX8_part st (nI z) 0 = some (Anu z) := by
        have e : fX8_part st (nI z) 0 = _ := M_part (c := z) (k := 0) (by omega) st
        rw [e, Nat.add_zero, ← (h.1.2 z (by omega)).1]
      have xn : fX0_numberAt Asz Anu (nI z) = some (Anu z) := by rw [hz]; exact X0_numberAt (by omega) hC Anu
      obtain ⟨r, r1, r2⟩ := dg_in h (show z < C by omega) 2147483648 0 (31 * a + (Anu z).toInt64) (by omega) (by omega)
      rw [nI_0] at r1 r2
      rw [if_neg (by rw [hz]; exact nI_ge (by omega) (by omega)), if_neg (nI_ge (by omega) (by omega)), xn, bd1_s, p0, bd1_s, lts, lts, r1, bd1_s, r2, bd1_s, nI_1]
      exact ih (z + 1) r (by omega) (by omega)
theorem dg_rank_in {C : Nat} (hC : C ≤ 12) {Asz : Int32} (hz : Asz = nI C) {Anu cl rk st : Nat → Int32} {ρ : Nat → Nat} (h5 : st 5 = nI C) (hn : ∀ i, i < C → Anu i = st (12 + 3 * i)) (hr : ∀ i, i < C → ρ i < C ∧ rk i = nI (ρ i) ∧ cl i = Anu (ρ i)) (u : Int32) : ∀ (k z : Nat) (a : Int64), z ≤ C → C - z < k → ∃ r, fX7_hashOfRanks_L27 (nI C) cl Asz u k a (nI z) = some r ∧ fX8_digest_L259 st rk u k a (nI z) = some r := by
  intro k
  induction k with
  | zero => intro z a h1 h2; omega
  | succ k ih =>
    intro z a h1 h2
    rw [fX7_hashOfRanks_L27, fX8_digest_L259, show ckI 5 336 _ = _ from ckI_ok (i := 5) (by omega) (by omega), show (5 : Int32).toNatClampNeg = 5 from rfl, h5, hz]
    by_cases e : z = C
    · subst e
      rw [if_pos (nI_le (by omega) (by omega)), if_pos (nI_le (by omega) (by omega))]
      exact ⟨a, rfl, rfl⟩
    · obtain ⟨y1, y2, y3⟩ := hr z (by omega)
      have pn : fX8_part st (nI (ρ z)) 0 = some (Anu (ρ z)) := by
        have e : fX8_part st (nI (ρ z)) 0 = _ := M_part (c := ρ z) (k := 0) (by omega) st
        rw [e, Nat.add_zero, ← hn _ y1]
      have ca : fX3_clientAt (nI C) cl (nI z) = some (Anu (ρ z)) := by
        unfold fX3_clientAt
        rw [if_neg (nI_nl (by omega)), if_neg (nI_ge (by omega) (by omega)), if_neg (by rw [le_i, nI_toInt (by omega), show (12 : Int32).toInt = 12 from rfl]; omega), ckI_ok (by omega) (by omega), nI_clamp (by omega), y3]
      rw [if_neg (nI_ge (by omega) (by omega)), if_neg (nI_ge (by omega) (by omega)), ca, bd1_s, ckI_ok (by omega) (by omega), nI_clamp (by omega), y2, pn, bd1_s, lts, lts, nI_1]
      rw [hz] at ih
      exact ih (z + 1) _ (by omega) (by omega)
theorem dg_ranks {n C R B E dn : Nat} {Asz : Int32} {Anu : Nat → Int32} {Aba : Nat → Int32} {Amo : Nat → Int32} {Aco : Nat → Int64} {Hsz : Int32} {Hla : Int32} {Hce : Nat → Int32} {Bsz : Int32} {Bla : Int32} {Bce : Nat → Int32} {Tma : Int32} {Tlc : Int32} {Ttc : Nat → Int32} {day : Int32} {lim : Int32} {low : Int32} {hig : Int32} {thr : Int32} {off : Int64} {cre : Int64} {rcp : Int64} {pay : Int64} {st : Nat → Int32} {gr : Nat → Int64} (h : RSc n C R B E dn Asz Anu Aba Amo Aco Hsz Hla Hce Bsz Bla Bce Tma Tlc Ttc day lim low hig thr off cre rcp pay st gr) : ∀ (k z : Nat) (Ksz : Int32) (Kcl Kke rk : Nat → Int32) (a : Int64), z ≤ 4 → 4 - z < k → ∃ r Ksz' Kcl' Kke' rk', fX7_hashOfRanks_L5 Asz Anu Aba Amo Hsz Hce k Ksz Kcl Kke a (nI z) = some (Ksz', Kcl', Kke', r) ∧ fX8_digest_L246 st k rk a (nI z) = some (rk', r) := by
  obtain ⟨hz, h5, hC⟩ := h.1.1
  intro k
  induction k with
  | zero => intro z Ksz Kcl Kke rk a h1 h2; omega
  | succ k ih =>
    intro z Ksz Kcl Kke rk a h1 h2
    rw [fX7_hashOfRanks_L5, fX8_digest_L246]
    by_cases e : z = 4
    · subst e
      rw [if_pos (by decide), if_pos (by decide)]
      exact ⟨a, _, _, _, _, rfl, rfl⟩
    · have n3 : ¬ (3 : Int32) < nI z := fun q => by rw [lt_i, nI_toInt (by omega), show (3 : Int32).toInt = 3 from rfl] at q; omega
      obtain ⟨cl', ke', rk', ρ', x1, x2, x3⟩ := rank_i h (p := nI z) (by rw [nI_toInt (by omega)]; omega) Ksz Kcl Kke rk
      obtain ⟨r, r1, r2⟩ := dg_rank_in hC hz h5 (fun i hi => (h.1.2 i hi).1) x3 (nI z) 2147483648 0 a (by omega) (by omega)
      rw [nI_0] at r1 r2
      rw [if_neg n3, if_neg n3, x1, bd3_s, r1, bd1_s, x2, bd1_s, r2, bd1_s, nI_1]
      exact ih (z + 1) _ _ _ _ _ (by omega) (by omega)
