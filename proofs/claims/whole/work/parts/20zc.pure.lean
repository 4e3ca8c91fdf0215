/-! the pure side, zc: the digest -/
theorem q_digest {n : Nat} {Asz : Int32} {Anu : Nat → Int32} {Aba : Nat → Int32} {Amo : Nat → Int32} {Aco : Nat → Int64} {Hsz : Int32} {Hla : Int32} {Hce : Nat → Int32} {Bsz : Int32} {Bla : Int32} {Bce : Nat → Int32} {Tma : Int32} {Tlc : Int32} {Ttc : Nat → Int32} {day : Int32} {lim : Int32} {low : Int32} {hig : Int32} {thr : Int32} {off : Int64} {cre : Int64} {rcp : Int64} {pay : Int64} {st : Nat → Int32} {gr : Nat → Int64} (h : RS n Asz Anu Aba Amo Aco Hsz Hla Hce Bsz Bla Bce Tma Tlc Ttc day lim low hig thr off cre rcp pay st gr) (hn : n < 2 ^ 30) (Ksz : Int32) (Kcl Kke rk : Nat → Int32) : ∃ r Ksz' Kcl' Kke' rk', fX7_digest Ksz Kcl Kke Asz Anu Aba Amo Aco Hsz Hce Bsz Bce Tma Ttc day off cre rcp pay = some (r, Ksz', Kcl', Kke') ∧ fX8_digest st gr rk = some (r, rk') := by
  have hs0 := h
  obtain ⟨C, R, B, E, dn, h⟩ := h
  have h' := h
  obtain ⟨hc, hI, hr, hrn, hh, hb, hbn, hbi, ht, hv, hE, hs⟩ := h'
  obtain ⟨hz, h5, hC⟩ := hc.1
  have hR := hr.1.2.2.1
  have hB := hb.1.2.2.1
  have E30 : E < 2 ^ 30 := by omega
  have k0 : ∀ {β : Type} (k : Option β), ckI 0 336 k = k := fun k => ckI_ok (i := 0) (by omega) (by omega)
  have k5 : ∀ {β : Type} (k : Option β), ckI 5 336 k = k := fun k => ckI_ok (i := 5) (by omega) (by omega)
  have k10 : ∀ {β : Type} (k : Option β), ckI 10 336 k = k := fun k => ckI_ok (i := 10) (by omega) (by omega)
  have e5 : st 5 = Asz := h5.trans hz.symm
  have e10 : st 10 = Tma := ht.1.2.1.trans ht.1.1.symm
  obtain ⟨r1, x1, m1⟩ := dg_clients h 2147483648 0 (31 * (6262 + day.toInt64) + Asz.toInt64) (by omega) (by omega)
  obtain ⟨r2, x2, m2⟩ := dg_rowsH hr 2147483648 2147483648 0 r1 (by omega) (by omega) (by omega)
  obtain ⟨r3, x3, m3⟩ := dg_rowsB hb 2147483648 2147483648 0 r2 (by omega) (by omega) (by omega)
  obtain ⟨j, ej⟩ : ∃ j, j = max 1 (E + 1 - 24) - 1 := ⟨_, rfl⟩
  obtain ⟨r4, x4, m4⟩ := dg_trail_L E30 ht 2147483648 (2147483648 - j) 24 (31 * r3 + Tma.toInt64) (by omega) (by omega) (by omega)
  have sk := dg_skip E30 ht.1.2.1 (31 * r3 + Tma.toInt64) j (2147483648 - j) (by omega)
  rw [show 2147483648 - j + j = 2147483648 by omega, show 1 + j = max 1 (E + 1 - 24) by omega, m4] at sk
  obtain ⟨r5, K1, K2, K3, rk', x5, m5⟩ := dg_ranks h 2147483648 1 Ksz Kcl Kke rk r4 (by omega) (by omega)
  obtain ⟨r6, x6, m6⟩ := dg_sums hs0 2147483648 0 r5 (by omega) (by omega)
  rw [nI_0] at x1 m1 x2 x3 x6 m6
  rw [Nat.mul_zero, nI_0] at m2 m3
  rw [show nI 24 - 1 = 23 from rfl] at x4
  rw [show nI 1 = 1 from rfl] at sk x5 m5
  refine ⟨r6, K1, K2, K3, rk', ?_, ?_⟩
  · unfold fX7_digest fX7_hashOfClients fX7_hashOfRows fX7_hashOfTrail fX7_hashOfRanks
    rw [lts, lts, x1, bd1_s, bd1_s, x2, bd1_s, bd1_s, x3, bd1_s, bd1_s, lts, x4, bd1_s, bd1_s, x5, bd4_s, bd4_s, x6, bd1_s]
  · unfold fX8_digest
    rw [k0, lts, k5, lts, show (0 : Int32).toNatClampNeg = 0 from rfl, show (5 : Int32).toNatClampNeg = 5 from rfl, show (10 : Int32).toNatClampNeg = 10 from rfl, hs.2.1.1, e5, show (31 * 202 : Int64) = 6262 from rfl, m1, bd1_s, m2, bd1_s, m3, bd1_s, k10, lts, e10, sk, bd1_s, m5, bd2_s, m6, bd1_s]
