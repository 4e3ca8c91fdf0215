/-! the pure side, u: what is asked -/
theorem rest_both {B : Nat} {Bsz Bla : Int32} {Bce st : Nat → Int32} (hr : RWr B Bsz Bla Bce st 7 9 108) (cl : Int32) : (∃ v, fX4_sumOf Bsz Bce cl 2 = some v ∧ fX8_restOf st cl = some v) ∧ (∃ v, fX4_countOf Bsz Bce cl = some v ∧ fX8_billsOf st cl = some v) := by
  obtain ⟨⟨hz, h6, hR, -⟩, hr⟩ := hr
  refine ⟨⟨_, by rw [hz]; exact X4_sumOf (k := 2) hR (by omega) Bce cl, ?_⟩, ⟨_, by rw [hz]; exact X4_countOf hR Bce cl, ?_⟩⟩
  · rw [M_restOf hR h6]
    refine congrArg some (sumI_cong B (fun i hi => ?_))
    have e1 := hr (i * 4 + 1) (by omega)
    have e2 := hr (i * 4 + 2) (by omega)
    rw [show 108 + (i * 4 + 1) = 108 + 4 * i + 1 by omega] at e1
    rw [show 108 + (i * 4 + 2) = 108 + 4 * i + 2 by omega] at e2
    rw [← e1, ← e2]
    exact ⟨rfl, fun _ => rfl⟩
  · rw [M_billsOf hR h6]
    refine congrArg some (sumI_cong B (fun i hi => ?_))
    have e1 := hr (i * 4 + 1) (by omega)
    rw [show 108 + (i * 4 + 1) = 108 + 4 * i + 1 by omega] at e1
    rw [← e1]
    exact ⟨rfl, fun _ => rfl⟩
theorem count_both {R : Nat} {Hsz Hla : Int32} {Hce st : Nat → Int32} (hr : RWr R Hsz Hla Hce st 6 8 48) (cl : Int32) : ∃ v, fX4_countOf Hsz Hce cl = some v ∧ fX8_holdsOf st cl = some v := by
  obtain ⟨⟨hz, h6, hR, -⟩, hr⟩ := hr
  refine ⟨_, by rw [hz]; exact X4_countOf hR Hce cl, ?_⟩
  rw [M_holdsOf hR h6]
  refine congrArg some (sumI_cong R (fun i hi => ?_))
  have e1 := hr (i * 4 + 1) (by omega)
  rw [show 48 + (i * 4 + 1) = 48 + 4 * i + 1 by omega] at e1
  rw [← e1]
  exact ⟨rfl, fun _ => rfl⟩
theorem about_i {n C R B E dn c : Nat} {Asz : Int32} {Anu : Nat → Int32} {Aba : Nat → Int32} {Amo : Nat → Int32} {Aco : Nat → Int64} {Hsz : Int32} {Hla : Int32} {Hce : Nat → Int32} {Bsz : Int32} {Bla : Int32} {Bce : Nat → Int32} {Tma : Int32} {Tlc : Int32} {Ttc : Nat → Int32} {day : Int32} {lim : Int32} {low : Int32} {hig : Int32} {thr : Int32} {off : Int64} {cre : Int64} {rcp : Int64} {pay : Int64} {st : Nat → Int32} {gr : Nat → Int64} (h : RSc n C R B E dn Asz Anu Aba Amo Aco Hsz Hla Hce Bsz Bla Bce Tma Tlc Ttc day lim low hig thr off cre rcp pay st gr) (hlt : c < C) (p : Int32) (hp : 0 ≤ p.toInt ∧ p.toInt ≤ 7) : ∃ v, fX5_aboutClient Asz Anu Aba Amo Aco Hsz Hce Bsz Bce (nI c) p = some v ∧ fX8_ofClient st gr (nI c) p = some v := by
  have h0 := h
  obtain ⟨hc, hi, hr, hrn, hh, hb, hbn, hbi, ht, hv, hE, hs⟩ := h0
  obtain ⟨hz, h5, hC⟩ := hc.1
  obtain ⟨r1, r2, r3, r4⟩ := hc.2 c hlt
  obtain ⟨f1, f2, f3⟩ := free_both hc hr (fun i hi => (hh.1 i hi).2.2.2) hs.2.1.1 hlt
  have f4 := (held_both hr (fun i hi => (hh.1 i hi).2.2.2) (Anu c)).1
  obtain ⟨⟨v4, a4, b4⟩, ⟨v7, a7, b7⟩⟩ := rest_both hb (Anu c)
  obtain ⟨v6, a6, b6⟩ := count_both hr (Anu c)
  have p0 : fX8_part st (nI c) 0 = some (Anu c) := by
    have e : fX8_part st (nI c) 0 = _ := M_part (c := c) (k := 0) (by omega) st
    rw [e, Nat.add_zero, ← r1]
  have p1 : fX8_part st (nI c) 1 = some (Aba c) := by
    have e : fX8_part st (nI c) 1 = _ := M_part (c := c) (k := 1) (by omega) st
    rw [e, show 12 + 3 * c + 1 = 13 + 3 * c by omega, ← r2]
  have p2 : fX8_part st (nI c) 2 = some (Amo c) := by
    have e : fX8_part st (nI c) 2 = _ := M_part (c := c) (k := 2) (by omega) st
    rw [e, show 12 + 3 * c + 2 = 14 + 3 * c by omega, ← r3]
  have xn : fX0_numberAt Asz Anu (nI c) = some (Anu c) := by rw [hz]; exact X0_numberAt hlt hC Anu
  unfold fX5_aboutClient fX8_ofClient
  rw [xn, bd1_s]
  obtain ⟨k, ek, ek2, ek3⟩ := nneg_nI hp.1
  rw [ek]
  rcases (by omega : k = 0 ∨ k = 1 ∨ k = 2 ∨ k = 3 ∨ k = 4 ∨ k = 5 ∨ k = 6 ∨ k = 7) with e | e | e | e | e | e | e | e <;> subst e
  · refine ⟨Aba c, ?_, ?_⟩
    · rw [if_pos (by decide), hz, X0_balanceAt hlt hC, bd1_s]
    · rw [if_pos (by decide), p1, bd1_s]
  · refine ⟨hsI Hce (Anu c) R, ?_, ?_⟩
    · rw [if_neg (by decide), if_pos (by decide), f4, bd1_s]
    · rw [if_neg (by decide), if_pos (by decide), f3, bd1_s]
  · refine ⟨Aba c - hsI Hce (Anu c) R, ?_, ?_⟩
    · rw [if_neg (by decide), if_neg (by decide), if_pos (by decide), f1, bd1_s]
    · rw [if_neg (by decide), if_neg (by decide), if_pos (by decide), f2, bd1_s]
  · refine ⟨(if 1000000000 < (Aco c / 3650000) then 1000000000 else (Aco c / 3650000)).toInt32, ?_, ?_⟩
    · rw [if_neg (by decide), if_neg (by decide), if_neg (by decide), if_pos (by decide), hz, X0_countAt hlt hC, bd1_s, lts]
    · rw [if_neg (by decide), if_neg (by decide), if_neg (by decide), if_pos (by decide), ckI_ok (by omega) (by omega), ckI_ok (by omega) (by omega), nI_clamp (by omega), ← r4]
      by_cases q : Aco c / 3650000 ≤ 1000000000
      · rw [if_pos q, if_neg (fun z => by rw [le64] at q; rw [lt64] at z; omega)]
      · rw [if_neg q, if_pos (by rw [le64] at q; rw [lt64]; omega)]; rfl
  · refine ⟨v4, ?_, ?_⟩
    · rw [if_neg (by decide), if_neg (by decide), if_neg (by decide), if_neg (by decide), if_pos (by decide), a4, bd1_s]
    · rw [if_neg (by decide), if_neg (by decide), if_neg (by decide), if_neg (by decide), if_pos (by decide), p0, bd1_s, b4, bd1_s]
  · refine ⟨Amo c, ?_, ?_⟩
    · rw [if_neg (by decide), if_neg (by decide), if_neg (by decide), if_neg (by decide), if_neg (by decide), if_pos (by decide), hz, X0_movedAt hlt hC, bd1_s]
    · rw [if_neg (by decide), if_neg (by decide), if_neg (by decide), if_neg (by decide), if_neg (by decide), if_pos (by decide), p2, bd1_s]
  · refine ⟨v6, ?_, ?_⟩
    · rw [if_neg (by decide), if_neg (by decide), if_neg (by decide), if_neg (by decide), if_neg (by decide), if_neg (by decide), if_pos (by decide), a6, bd1_s]
    · rw [if_neg (by decide), if_neg (by decide), if_neg (by decide), if_neg (by decide), if_neg (by decide), if_neg (by decide), if_pos (by decide), p0, bd1_s, b6, bd1_s]
  · refine ⟨v7, ?_, ?_⟩
    · rw [if_neg (by decide), if_neg (by decide), if_neg (by decide), if_neg (by decide), if_neg (by decide), if_neg (by decide), if_neg (by decide), if_pos (by decide), a7, bd1_s]
    · rw [if_neg (by decide), if_neg (by decide), if_neg (by decide), if_neg (by decide), if_neg (by decide), if_neg (by decide), if_neg (by decide), p0, bd1_s, b7, bd1_s]
theorem q_of {n : Nat} {Asz : Int32} {Anu : Nat → Int32} {Aba : Nat → Int32} {Amo : Nat → Int32} {Aco : Nat → Int64} {Hsz : Int32} {Hla : Int32} {Hce : Nat → Int32} {Bsz : Int32} {Bla : Int32} {Bce : Nat → Int32} {Tma : Int32} {Tlc : Int32} {Ttc : Nat → Int32} {day : Int32} {lim : Int32} {low : Int32} {hig : Int32} {thr : Int32} {off : Int64} {cre : Int64} {rcp : Int64} {pay : Int64} {st : Nat → Int32} {gr : Nat → Int64} (h : RS n Asz Anu Aba Amo Aco Hsz Hla Hce Bsz Bla Bce Tma Tlc Ttc day lim low hig thr off cre rcp pay st gr) (p1 p2 : Int32) : ∃ r, fX7_of Asz Anu Aba Amo Aco Hsz Hce Bsz Bce p1 p2 = some r ∧ fX8_of st gr p1 p2 = some r := by
  obtain ⟨C, R, B, E, dn, h⟩ := h
  have hC := h.1.1.2.2
  unfold fX7_of fX8_of
  rcases find_both h.1 h.2.1 p1 with ⟨c, f1, f2, f3, f4, f5⟩ | ⟨f3, f4, f5⟩
  · rw [f4, bd1_s, if_pos (nI_nn (by omega)), f5, bd1_s, if_neg (nI_nm6 (by omega))]
    rcases rng_dec p2 7 (by decide) with ⟨a1, a2, a3, a4, a5⟩ | ⟨a1, a5⟩
    · obtain ⟨v, v1, v2⟩ := about_i h f1 p2 a1
      rw [a5, bd1_s, if_neg n10, v1, bd1_s, v2, bd1_s]
      exact ⟨v, rfl, rfl⟩
    · rw [a5, bd1_s, if_pos rfl]
      refine ⟨-2, ?_, rfl⟩
      have np : ∀ k : Int32, 0 ≤ k.toInt → k.toInt ≤ 7 → ¬ p2 = k := fun k h0 h7 e => by
        subst e
        rcases a1 with c1 | ⟨c1, c2, c3⟩
        · rw [lt_i, toInt_0] at c1; omega
        · rw [lt_i, show (7 : Int32).toInt = 7 from rfl] at c2; omega
      have xn : fX0_numberAt Asz Anu (nI c) = some (Anu c) := by rw [h.1.1.1]; exact X0_numberAt f1 hC Anu
      unfold fX5_aboutClient
      rw [xn, bd1_s, if_neg (np 0 (by decide) (by decide)), if_neg (np 1 (by decide) (by decide)), if_neg (np 2 (by decide) (by decide)), if_neg (np 3 (by decide) (by decide)), if_neg (np 4 (by decide) (by decide)), if_neg (np 5 (by decide) (by decide)), if_neg (np 6 (by decide) (by decide)), if_neg (np 7 (by decide) (by decide)), bd1_s]
  · rw [f4, bd1_s, if_neg (by decide), f5, bd1_s, if_pos rfl]
    exact ⟨-1, rfl, rfl⟩
theorem q_holdOf {n : Nat} {Asz : Int32} {Anu : Nat → Int32} {Aba : Nat → Int32} {Amo : Nat → Int32} {Aco : Nat → Int64} {Hsz : Int32} {Hla : Int32} {Hce : Nat → Int32} {Bsz : Int32} {Bla : Int32} {Bce : Nat → Int32} {Tma : Int32} {Tlc : Int32} {Ttc : Nat → Int32} {day : Int32} {lim : Int32} {low : Int32} {hig : Int32} {thr : Int32} {off : Int64} {cre : Int64} {rcp : Int64} {pay : Int64} {st : Nat → Int32} {gr : Nat → Int64} (h : RS n Asz Anu Aba Amo Aco Hsz Hla Hce Bsz Bla Bce Tma Tlc Ttc day lim low hig thr off cre rcp pay st gr) (p1 p2 : Int32) : ∃ r, fX7_holdOf Hsz Hce p1 p2 = some r ∧ fX8_holdOf st p1 p2 = some r := by
  obtain ⟨C, R, B, E, dn, hc, hi, hr, hrn, hh, hb, hbn, hbi, ht, hv, hE, hs⟩ := h
  have hR := hr.1.2.2.1
  unfold fX7_holdOf fX7_aboutRow fX8_holdOf
  rcases hold_both hr hrn p1 with ⟨g, f1, f2, f4, f5⟩ | ⟨f3, f4, f5⟩
  · rw [f4, bd1_s, if_pos (nI_nn (by omega)), f5, bd1_s, if_neg (nI_nm6 (by omega))]
    rcases rng_dec p2 2 (by decide) with ⟨a1, a2, a3, a4, a5⟩ | ⟨a1, a5⟩
    · obtain ⟨k, ek, ek2, ek3⟩ := nneg_nI a1.1
      have k3 : k ≤ 2 := by have := a1.2; rw [show (2 : Int32).toInt = 2 from rfl] at this; omega
      have e1 : 1 + p2 = nI (1 + k) := by rw [ek, lit_1, nI_add]
      have e2 : fX4_get Hsz Hce (nI g) (1 + p2) = some (Hce (g * 4 + (1 + k))) := by rw [e1, hr.1.1]; exact X4_get f1 hR (by omega) Hce
      have e3 : fX8_holdPart st (nI g) (1 + p2) = some (Hce (g * 4 + (1 + k))) := by rw [e1, M_holdPart (by omega), hr.2 _ (by omega)]; exact congrArg (fun x => some (st x)) (by omega)
      rw [if_neg a2, if_pos a4, e2, bd1_s, bd1_s, a5, bd1_s, if_neg n10, e3, bd1_s]
      exact ⟨_, rfl, rfl⟩
    · rw [a5, bd1_s, if_pos rfl]
      refine ⟨-2, ?_, rfl⟩
      rcases a1 with c1 | ⟨c1, c2, c3⟩
      · rw [if_pos c1, bd1_s]
      · rw [if_neg c1, if_neg c3, bd1_s]
  · rw [f4, bd1_s, if_neg (by decide), bd1_s, f5, bd1_s, if_pos rfl]
    exact ⟨-1, rfl, rfl⟩
theorem q_billOf {n : Nat} {Asz : Int32} {Anu : Nat → Int32} {Aba : Nat → Int32} {Amo : Nat → Int32} {Aco : Nat → Int64} {Hsz : Int32} {Hla : Int32} {Hce : Nat → Int32} {Bsz : Int32} {Bla : Int32} {Bce : Nat → Int32} {Tma : Int32} {Tlc : Int32} {Ttc : Nat → Int32} {day : Int32} {lim : Int32} {low : Int32} {hig : Int32} {thr : Int32} {off : Int64} {cre : Int64} {rcp : Int64} {pay : Int64} {st : Nat → Int32} {gr : Nat → Int64} (h : RS n Asz Anu Aba Amo Aco Hsz Hla Hce Bsz Bla Bce Tma Tlc Ttc day lim low hig thr off cre rcp pay st gr) (p1 p2 : Int32) : ∃ r, fX7_billOf Bsz Bce p1 p2 = some r ∧ fX8_billOf st p1 p2 = some r := by
  obtain ⟨C, R, B, E, dn, hc, hi, hr, hrn, hh, hb, hbn, hbi, ht, hv, hE, hs⟩ := h
  have hR := hb.1.2.2.1
  unfold fX7_billOf fX7_aboutRow fX8_billOf
  rcases bill_both hb hbn p1 with ⟨g, f1, f2, f4, f5⟩ | ⟨f3, f4, f5⟩
  · rw [f4, bd1_s, if_pos (nI_nn (by omega)), f5, bd1_s, if_neg (nI_nm6 (by omega))]
    rcases rng_dec p2 2 (by decide) with ⟨a1, a2, a3, a4, a5⟩ | ⟨a1, a5⟩
    · obtain ⟨k, ek, ek2, ek3⟩ := nneg_nI a1.1
      have k3 : k ≤ 2 := by have := a1.2; rw [show (2 : Int32).toInt = 2 from rfl] at this; omega
      have e1 : 1 + p2 = nI (1 + k) := by rw [ek, lit_1, nI_add]
      have e2 : fX4_get Bsz Bce (nI g) (1 + p2) = some (Bce (g * 4 + (1 + k))) := by rw [e1, hb.1.1]; exact X4_get f1 hR (by omega) Bce
      have e3 : fX8_billPart st (nI g) (1 + p2) = some (Bce (g * 4 + (1 + k))) := by rw [e1, M_billPart (by omega), hb.2 _ (by omega)]; exact congrArg (fun x => some (st x)) (by omega)
      rw [if_neg a2, if_pos a4, e2, bd1_s, bd1_s, a5, bd1_s, if_neg n10, e3, bd1_s]
      exact ⟨_, rfl, rfl⟩
    · rw [a5, bd1_s, if_pos rfl]
      refine ⟨-2, ?_, rfl⟩
      rcases a1 with c1 | ⟨c1, c2, c3⟩
      · rw [if_pos c1, bd1_s]
      · rw [if_neg c1, if_neg c3, bd1_s]
  · rw [f4, bd1_s, if_neg (by decide), bd1_s, f5, bd1_s, if_pos rfl]
    exact ⟨-1, rfl, rfl⟩
theorem q_entry {n : Nat} {Asz : Int32} {Anu : Nat → Int32} {Aba : Nat → Int32} {Amo : Nat → Int32} {Aco : Nat → Int64} {Hsz : Int32} {Hla : Int32} {Hce : Nat → Int32} {Bsz : Int32} {Bla : Int32} {Bce : Nat → Int32} {Tma : Int32} {Tlc : Int32} {Ttc : Nat → Int32} {day : Int32} {lim : Int32} {low : Int32} {hig : Int32} {thr : Int32} {off : Int64} {cre : Int64} {rcp : Int64} {pay : Int64} {st : Nat → Int32} {gr : Nat → Int64} (h : RS n Asz Anu Aba Amo Aco Hsz Hla Hce Bsz Bla Bce Tma Tlc Ttc day lim low hig thr off cre rcp pay st gr) (hn : n < 2 ^ 30) (p1 p2 : Int32) : ∃ r, fX7_entry Tma Ttc p1 p2 = some r ∧ fX8_entry st p1 p2 = some r := by
  obtain ⟨C, R, B, E, dn, hc, hi, hr, hrn, hh, hb, hbn, hbi, ht, hv, hE, hs⟩ := h
  have E30 : E < 2 ^ 30 := by omega
  unfold fX7_entry fX8_entry
  rcases kept_dec E30 ht.1.1 ht.1.2.1 p1 with ⟨e, pe, h1, h2, h3, kx, km⟩ | ⟨kx, km⟩
  · rw [kx, bd1_s, if_neg n10, km, bd1_s, if_neg n10]
    rcases rng_dec p2 6 (by decide) with ⟨a1, a2, a3, a4, a5⟩ | ⟨a1, a5⟩
    · obtain ⟨k, ek, ek2, ek3⟩ := nneg_nI a1.1
      have k3 : k ≤ 6 := by have := a1.2; rw [show (6 : Int32).toInt = 6 from rfl] at this; omega
      subst pe
      obtain ⟨x1, m1⟩ := ent_both (k := k) E30 ht h1 h2 h3 (by omega) kx
      rw [if_neg a2, if_pos a4, a5, bd1_s, if_neg n10, ek, x1, bd1_s, m1, bd1_s]
      exact ⟨_, rfl, rfl⟩
    · rw [a5, bd1_s, if_pos rfl]
      refine ⟨-2, ?_, rfl⟩
      rcases a1 with c1 | ⟨c1, c2, c3⟩
      · rw [if_pos c1]
      · rw [if_neg c1, if_neg c3]
  · rw [kx, bd1_s, if_pos rfl, km, bd1_s, if_pos rfl]
    exact ⟨-1, rfl, rfl⟩
