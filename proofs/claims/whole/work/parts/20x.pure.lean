/-! the pure side, x: ranks -/
def keyF (Anu Aba Amo : Nat → Int32) (Hce : Nat → Int32) (R : Nat) (p : Int32) (c : Nat) : Int32 := if p = 1 then -(Aba c) else if p = 2 then Aba c - hsI Hce (Anu c) R else if p = 3 then Amo c else 0
theorem key_i {n C R B E dn c : Nat} {Asz : Int32} {Anu : Nat → Int32} {Aba : Nat → Int32} {Amo : Nat → Int32} {Aco : Nat → Int64} {Hsz : Int32} {Hla : Int32} {Hce : Nat → Int32} {Bsz : Int32} {Bla : Int32} {Bce : Nat → Int32} {Tma : Int32} {Tlc : Int32} {Ttc : Nat → Int32} {day : Int32} {lim : Int32} {low : Int32} {hig : Int32} {thr : Int32} {off : Int64} {cre : Int64} {rcp : Int64} {pay : Int64} {st : Nat → Int32} {gr : Nat → Int64} (h : RSc n C R B E dn Asz Anu Aba Amo Aco Hsz Hla Hce Bsz Bla Bce Tma Tlc Ttc day lim low hig thr off cre rcp pay st gr) (hlt : c < C) (p : Int32) : fX3_keyOf Asz Anu Aba Amo Hsz Hce p (nI c) = some (keyF Anu Aba Amo Hce R p c) := by
  obtain ⟨w1, -⟩ := whyPaid_eq h hlt
  obtain ⟨hz, h5, hC⟩ := h.1.1
  unfold fX3_keyOf keyF
  by_cases c1 : p = 1
  · rw [if_pos c1, if_pos c1, hz, X0_balanceAt hlt hC, bd1_s]
  · rw [if_neg c1, if_neg c1]
    by_cases c2 : p = 2
    · rw [if_pos c2, if_pos c2, w1, bd1_s]
    · rw [if_neg c2, if_neg c2]
      by_cases c3 : p = 3
      · rw [if_pos c3, if_pos c3, hz, X0_movedAt hlt hC, bd1_s]
      · rw [if_neg c3, if_neg c3]
theorem stay_i {n C R B E dn a b : Nat} {Asz : Int32} {Anu : Nat → Int32} {Aba : Nat → Int32} {Amo : Nat → Int32} {Aco : Nat → Int64} {Hsz : Int32} {Hla : Int32} {Hce : Nat → Int32} {Bsz : Int32} {Bla : Int32} {Bce : Nat → Int32} {Tma : Int32} {Tlc : Int32} {Ttc : Nat → Int32} {day : Int32} {lim : Int32} {low : Int32} {hig : Int32} {thr : Int32} {off : Int64} {cre : Int64} {rcp : Int64} {pay : Int64} {st : Nat → Int32} {gr : Nat → Int64} (h : RSc n C R B E dn Asz Anu Aba Amo Aco Hsz Hla Hce Bsz Bla Bce Tma Tlc Ttc day lim low hig thr off cre rcp pay st gr) (ha : a < C) (hb : b < C) {p : Int32} (hp : p = 1 ∨ p = 2 ∨ p = 3) : fX8_staysAhead st (nI a) (nI b) p = some (if keyF Anu Aba Amo Hce R p a ≤ keyF Anu Aba Amo Hce R p b then 1 else 0) := by
  obtain ⟨-, wa, -, -, -, -, ba⟩ := whyPaid_eq h ha
  obtain ⟨-, wb, -, -, -, -, bb⟩ := whyPaid_eq h hb
  have hC := h.1.1.2.2
  have pt : ∀ c, c < C → fX8_part st (nI c) 1 = some (Aba c) ∧ fX8_part st (nI c) 2 = some (Amo c) := fun c hc => by
    obtain ⟨r1, r2, r3, r4⟩ := h.1.2 c hc
    have e : fX8_part st (nI c) 1 = _ := M_part (c := c) (k := 1) (by omega) st
    have f : fX8_part st (nI c) 2 = _ := M_part (c := c) (k := 2) (by omega) st
    exact ⟨by rw [e, show 12 + 3 * c + 1 = 13 + 3 * c by omega, ← r2], by rw [f, show 12 + 3 * c + 2 = 14 + 3 * c by omega, ← r3]⟩
  unfold fX8_staysAhead keyF
  rcases hp with e | e | e
  · rw [if_pos e, if_pos e, if_pos e, (pt a ha).1, bd1_s, (pt b hb).1, bd1_s]
    have na := neg_toInt (x := Aba a) (by omega)
    have nb := neg_toInt (x := Aba b) (by omega)
    by_cases c : Aba a < Aba b
    · rw [if_pos c, if_neg (fun z => by rw [lt_i] at c; rw [le_i, na, nb] at z; omega)]
    · rw [if_neg c, if_pos (by rw [lt_i] at c; rw [le_i, na, nb]; omega)]
  · have n1 : ¬ p = 1 := by rw [e]; decide
    rw [if_neg n1, if_neg n1, if_neg n1, if_pos e, if_pos e, if_pos e, wa, bd1_s, wb, bd1_s]
    by_cases c : Aba b - hsI Hce (Anu b) R < Aba a - hsI Hce (Anu a) R
    · rw [if_pos c, if_neg (fun z => by rw [lt_i] at c; rw [le_i] at z; omega)]
    · rw [if_neg c, if_pos (by rw [lt_i] at c; rw [le_i]; omega)]
  · have n1 : ¬ p = 1 := by rw [e]; decide
    have n2 : ¬ p = 2 := by rw [e]; decide
    rw [if_neg n1, if_neg n1, if_neg n1, if_neg n2, if_neg n2, if_neg n2, if_pos e, if_pos e, (pt a ha).2, bd1_s, (pt b hb).2, bd1_s]
    by_cases c : Amo b < Amo a
    · rw [if_pos c, if_neg (fun z => by rw [lt_i] at c; rw [le_i] at z; omega)]
    · rw [if_neg c, if_pos (by rw [lt_i] at c; rw [le_i]; omega)]
theorem rank_in {n C R B E dn m : Nat} {Asz : Int32} {Anu : Nat → Int32} {Aba : Nat → Int32} {Amo : Nat → Int32} {Aco : Nat → Int64} {Hsz : Int32} {Hla : Int32} {Hce : Nat → Int32} {Bsz : Int32} {Bla : Int32} {Bce : Nat → Int32} {Tma : Int32} {Tlc : Int32} {Ttc : Nat → Int32} {day : Int32} {lim : Int32} {low : Int32} {hig : Int32} {thr : Int32} {off : Int64} {cre : Int64} {rcp : Int64} {pay : Int64} {st : Nat → Int32} {gr : Nat → Int64} (h : RSc n C R B E dn Asz Anu Aba Amo Aco Hsz Hla Hce Bsz Bla Bce Tma Tlc Ttc day lim low hig thr off cre rcp pay st gr) (hm : m < C) {p : Int32} (hp : 0 ≤ p.toInt ∧ p.toInt ≤ 3) : ∀ (k z : Nat) (cl ke rk : Nat → Int32) (ρ : Nat → Nat), z ≤ m → z < k → (∀ i, i ≤ m → i ≠ z → ρ i < C ∧ rk i = nI (ρ i) ∧ cl i = Anu (ρ i) ∧ ke i = keyF Anu Aba Amo Hce R p (ρ i)) →
    ∃ (cl' ke' rk' : Nat → Int32) (ρ' : Nat → Nat) (w : Nat), fX3_sort_L37 p (nI m) (keyF Anu Aba Amo Hce R p m) k cl ke (nI z) = some (cl', ke', nI w) ∧ fX8_findRanks_L14 st p (nI m) k rk (nI z) = some (rk', nI w) ∧ w ≤ z ∧ (∀ i, i ≤ m → i ≠ w → ρ' i < C ∧ rk' i = nI (ρ' i) ∧ cl' i = Anu (ρ' i) ∧ ke' i = keyF Anu Aba Amo Hce R p (ρ' i)) := by
  have hC := h.1.1.2.2
  intro k
  induction k with
  | zero => intro z cl ke rk ρ h1 h2; omega
  | succ k ih =>
    intro z cl ke rk ρ h1 h2 hr
    rw [fX3_sort_L37, fX8_findRanks_L14]
    by_cases p0 : p = 0
    · have kz : ∀ c, keyF Anu Aba Amo Hce R p c = 0 := fun c => by unfold keyF; rw [if_neg (by rw [p0]; decide), if_neg (by rw [p0]; decide), if_neg (by rw [p0]; decide)]
      rw [if_pos (show p ≤ 0 by rw [p0]; decide)]
      by_cases e : z = 0
      · subst e
        rw [if_pos (show nI 0 ≤ 0 by decide)]
        exact ⟨cl, ke, rk, ρ, 0, rfl, rfl, Nat.le_refl _, hr⟩
      · obtain ⟨r1, r2, r3, r4⟩ := hr (z - 1) (by omega) (by omega)
        rw [if_neg (nle0 (by rw [nI_toInt (by omega)]; omega)), show nI z - 1 = nI (z - 1) from nI_sub (b := 1) (by omega), ckI_ok (by omega) (by omega), nI_clamp (by omega), r4, kz, kz, if_pos (by decide)]
        exact ⟨cl, ke, rk, ρ, z, rfl, rfl, Nat.le_refl _, hr⟩
    · have hp' : p = 1 ∨ p = 2 ∨ p = 3 := by
        have : p.toInt ≠ 0 := fun e => p0 (Int32.toInt_inj.mp e)
        rcases (by omega : p.toInt = 1 ∨ p.toInt = 2 ∨ p.toInt = 3) with e | e | e
        · exact Or.inl (Int32.toInt_inj.mp e)
        · exact Or.inr (Or.inl (Int32.toInt_inj.mp e))
        · exact Or.inr (Or.inr (Int32.toInt_inj.mp e))
      have np : ¬ p ≤ 0 := nle0 (by have : p.toInt ≠ 0 := fun e => p0 (Int32.toInt_inj.mp e); omega)
      rw [if_neg np]
      by_cases e : z = 0
      · subst e
        rw [if_pos (show nI 0 ≤ 0 by decide), if_pos (show nI 0 ≤ 0 by decide)]
        exact ⟨cl, ke, rk, ρ, 0, rfl, rfl, Nat.le_refl _, hr⟩
      · obtain ⟨r1, r2, r3, r4⟩ := hr (z - 1) (by omega) (by omega)
        have zn : ¬ nI z ≤ 0 := nle0 (by rw [nI_toInt (by omega)]; omega)
        have zm : nI z - 1 = nI (z - 1) := nI_sub (b := 1) (by omega)
        have zm' : nI z + -1 = nI (z - 1) := by rw [← zm, Int32.sub_eq_add_neg]
        have k1 : ∀ {β : Type} (k : Option β), ckI (nI (z - 1)) 12 k = k := fun k => ckI_ok (by omega) (by omega)
        have k2 : ∀ {β : Type} (k : Option β), ckI (nI z) 12 k = k := fun k => ckI_ok (by omega) (by omega)
        rw [if_neg zn, if_neg zn, zm, k1, nI_clamp (by omega), k1, r4, r2, stay_i h r1 hm hp', bd1_s]
        by_cases q : keyF Anu Aba Amo Hce R p (ρ (z - 1)) ≤ keyF Anu Aba Amo Hce R p m
        · rw [if_pos q, if_pos q, if_neg n10, k1]
          exact ⟨cl, ke, rk, ρ, z, rfl, rfl, Nat.le_refl _, hr⟩
        · rw [if_neg q, if_neg q, if_pos rfl, k1, k2, lts, k1, k2, lts, k1, k2, lts, nI_clamp (by omega), zm', r3]
          obtain ⟨cl', ke', rk', ρ', w, a1, a2, a3, a4⟩ := ih (z - 1) (upd cl z (Anu (ρ (z - 1)))) (upd ke z (keyF Anu Aba Amo Hce R p (ρ (z - 1)))) (upd rk z (nI (ρ (z - 1)))) (fun i => if i = z then ρ (z - 1) else ρ i) (by omega) (by omega) (fun i hi hne => by
            by_cases w : i = z
            · subst w
              simp only [if_true]
              rw [upd_s, upd_s, upd_s]
              exact ⟨r1, rfl, rfl, rfl⟩
            · simp only [w, if_false]
              rw [upd_n w, upd_n w, upd_n w]
              exact hr i hi w)
          exact ⟨cl', ke', rk', ρ', w, a1, a2, by omega, a4⟩
theorem rank_out {n C R B E dn : Nat} {Asz : Int32} {Anu : Nat → Int32} {Aba : Nat → Int32} {Amo : Nat → Int32} {Aco : Nat → Int64} {Hsz : Int32} {Hla : Int32} {Hce : Nat → Int32} {Bsz : Int32} {Bla : Int32} {Bce : Nat → Int32} {Tma : Int32} {Tlc : Int32} {Ttc : Nat → Int32} {day : Int32} {lim : Int32} {low : Int32} {hig : Int32} {thr : Int32} {off : Int64} {cre : Int64} {rcp : Int64} {pay : Int64} {st : Nat → Int32} {gr : Nat → Int64} (h : RSc n C R B E dn Asz Anu Aba Amo Aco Hsz Hla Hce Bsz Bla Bce Tma Tlc Ttc day lim low hig thr off cre rcp pay st gr) {p : Int32} (hp : 0 ≤ p.toInt ∧ p.toInt ≤ 3) : ∀ (k m : Nat) (cl ke rk : Nat → Int32) (ρ : Nat → Nat), m ≤ C → C - m < k → (∀ i, i < m → ρ i < C ∧ rk i = nI (ρ i) ∧ cl i = Anu (ρ i) ∧ ke i = keyF Anu Aba Amo Hce R p (ρ i)) →
    ∃ (cl' ke' rk' : Nat → Int32) (ρ' : Nat → Nat), fX3_sort_L18 (nI C) Asz Anu Aba Amo Hsz Hce p k cl ke (nI m) = some (cl', ke') ∧ fX8_findRanks_L2 st p k rk (nI m) = some rk' ∧ (∀ i, i < C → ρ' i < C ∧ rk' i = nI (ρ' i) ∧ cl' i = Anu (ρ' i)) := by
  obtain ⟨hz, h5, hC⟩ := h.1.1
  intro k
  induction k with
  | zero => intro m cl ke rk ρ h1 h2; omega
  | succ k ih =>
    intro m cl ke rk ρ h1 h2 hr
    rw [fX3_sort_L18, fX8_findRanks_L2, show ckI 5 336 _ = _ from ckI_ok (i := 5) (by omega) (by omega), show (5 : Int32).toNatClampNeg = 5 from rfl, h5]
    by_cases e : m = C
    · subst e
      rw [if_pos (nI_le (by omega) (by omega)), if_pos (nI_le (by omega) (by omega))]
      exact ⟨cl, ke, rk, ρ, rfl, rfl, fun i hi => ⟨(hr i hi).1, (hr i hi).2.1, (hr i hi).2.2.1⟩⟩
    · have hm : m < C := by omega
      have nn : fX0_numberAt Asz Anu (nI m) = some (Anu m) := by rw [hz]; exact X0_numberAt hm hC Anu
      obtain ⟨cl', ke', rk', ρ', w, a1, a2, a3, a4⟩ := rank_in h hm hp 2147483648 m cl ke rk ρ (Nat.le_refl _) (by omega) (fun i hi hne => hr i (by omega))
      have kw : ∀ {β : Type} (k : Option β), ckI (nI w) 12 k = k := fun k => ckI_ok (by omega) (by omega)
      rw [if_neg (nI_ge (by omega) (by omega)), if_neg (nI_ge (by omega) (by omega)), key_i h hm, bd1_s, a1, bd3_s, a2, bd2_s, kw, kw, lts, lts, nn, bd1_s, kw, lts, nI_clamp (by omega), nI_1]
      exact ih (m + 1) (upd cl' w (Anu m)) (upd ke' w (keyF Anu Aba Amo Hce R p m)) (upd rk' w (nI m)) (fun i => if i = w then m else ρ' i) (by omega) (by omega) (fun i hi => by
        by_cases d : i = w
        · subst d
          simp only [if_true]
          rw [upd_s, upd_s, upd_s]
          exact ⟨hm, rfl, rfl, rfl⟩
        · simp only [d, if_false]
          rw [upd_n d, upd_n d, upd_n d]
          exact a4 i (by omega) d)
theorem rank_i {n C R B E dn : Nat} {Asz : Int32} {Anu : Nat → Int32} {Aba : Nat → Int32} {Amo : Nat → Int32} {Aco : Nat → Int64} {Hsz : Int32} {Hla : Int32} {Hce : Nat → Int32} {Bsz : Int32} {Bla : Int32} {Bce : Nat → Int32} {Tma : Int32} {Tlc : Int32} {Ttc : Nat → Int32} {day : Int32} {lim : Int32} {low : Int32} {hig : Int32} {thr : Int32} {off : Int64} {cre : Int64} {rcp : Int64} {pay : Int64} {st : Nat → Int32} {gr : Nat → Int64} (h : RSc n C R B E dn Asz Anu Aba Amo Aco Hsz Hla Hce Bsz Bla Bce Tma Tlc Ttc day lim low hig thr off cre rcp pay st gr) {p : Int32} (hp : 0 ≤ p.toInt ∧ p.toInt ≤ 3) (Ksz : Int32) (Kcl Kke rk : Nat → Int32) : ∃ (cl' ke' rk' : Nat → Int32) (ρ' : Nat → Nat), fX3_sort Ksz Kcl Kke Asz Anu Aba Amo Hsz Hce p = some (nI C, cl', ke') ∧ fX8_findRanks st rk p = some rk' ∧ (∀ i, i < C → ρ' i < C ∧ rk' i = nI (ρ' i) ∧ cl' i = Anu (ρ' i)) := by
  obtain ⟨hz, h5, hC⟩ := h.1.1
  obtain ⟨cl', ke', rk', ρ', a1, a2, a3⟩ := rank_out h hp 2147483648 0 Kcl Kke rk (fun _ => 0) (by omega) (by omega) (fun i hi => by omega)
  rw [nI_0] at a1 a2
  refine ⟨cl', ke', rk', ρ', ?_, ?_, a3⟩
  · have e : (if (12 : Int32) < Asz then (12 : Int32) else Asz) = nI C := by
      rw [hz, if_neg (by rw [lt_i, nI_toInt (by omega), show (12 : Int32).toInt = 12 from rfl]; omega)]
    unfold fX3_sort
    rw [e, lts, a1, bd2_s]
  · unfold fX8_findRanks
    rw [a2, bd1_s]
theorem q_ranked {n : Nat} {Asz : Int32} {Anu : Nat → Int32} {Aba : Nat → Int32} {Amo : Nat → Int32} {Aco : Nat → Int64} {Hsz : Int32} {Hla : Int32} {Hce : Nat → Int32} {Bsz : Int32} {Bla : Int32} {Bce : Nat → Int32} {Tma : Int32} {Tlc : Int32} {Ttc : Nat → Int32} {day : Int32} {lim : Int32} {low : Int32} {hig : Int32} {thr : Int32} {off : Int64} {cre : Int64} {rcp : Int64} {pay : Int64} {st : Nat → Int32} {gr : Nat → Int64} (h : RS n Asz Anu Aba Amo Aco Hsz Hla Hce Bsz Bla Bce Tma Tlc Ttc day lim low hig thr off cre rcp pay st gr) (Ksz : Int32) (Kcl Kke rk : Nat → Int32) (p1 p2 : Int32) : ∃ r Ksz' Kcl' Kke' rk', fX7_ranked Ksz Kcl Kke Asz Anu Aba Amo Hsz Hce p1 p2 = some (r, Ksz', Kcl', Kke') ∧ fX8_ranked st rk p1 p2 = some (r, rk') := by
  obtain ⟨C, R, B, E, dn, h⟩ := h
  obtain ⟨hz, h5, hC⟩ := h.1.1
  unfold fX7_ranked fX8_ranked
  rcases rng_dec p1 3 (by decide) with ⟨a1, a2, a3, a4, a5⟩ | ⟨a1, a5⟩
  · rw [if_neg a2, if_pos a4, a5, bd1_s, if_neg n10, show ckI 5 336 _ = _ from ckI_ok (i := 5) (by omega) (by omega), show (5 : Int32).toNatClampNeg = 5 from rfl, h5, within_i, bd1_s]
    have et : (nI C - 1).toInt = (C : Int) - 1 := by rw [sub_toInt (by rw [nI_toInt (by omega), toInt_1]; omega) (by rw [nI_toInt (by omega), toInt_1]; omega), nI_toInt (by omega), toInt_1]
    by_cases q : 0 ≤ p2.toInt ∧ p2.toInt < C
    · obtain ⟨k, ek, ek2, ek3⟩ := nneg_nI q.1
      have kC : k < C := by omega
      obtain ⟨cl', ke', rk', ρ', x1, x2, x3⟩ := rank_i h (p := p1) (by have := a1.2; rw [show (3 : Int32).toInt = 3 from rfl] at this; exact ⟨a1.1, this⟩) Ksz Kcl Kke rk
      obtain ⟨y1, y2, y3⟩ := x3 k kC
      have hw : (if (0 : Int32).toInt ≤ p2.toInt ∧ p2.toInt ≤ (nI C - 1).toInt then (1 : Int32) else 0) = 1 := if_pos (by rw [et, toInt_0]; omega)
      have pn : fX8_part st (nI (ρ' k)) 0 = some (Anu (ρ' k)) := by
        have e : fX8_part st (nI (ρ' k)) 0 = _ := M_part (c := ρ' k) (k := 0) (by omega) st
        rw [e, Nat.add_zero, ← (h.1.2 _ y1).1]
      have ca : fX3_clientAt (nI C) cl' (nI k) = some (Anu (ρ' k)) := by
        unfold fX3_clientAt
        rw [if_neg (nI_nl (by omega)), if_neg (nI_ge (by omega) (by omega)), if_neg (by rw [le_i, nI_toInt (by omega), show (12 : Int32).toInt = 12 from rfl]; omega), ckI_ok (by omega) (by omega), nI_clamp (by omega), y3]
      rw [if_neg (by rw [lt_i, toInt_0]; omega), if_pos (show p2 < Asz by rw [lt_i, hz, nI_toInt (by omega)]; omega), x1, bd3_s, ek, ca, bd1_s, ← ek, hw, if_neg n10, x2, bd1_s, ek, ckI_ok (by omega) (by omega), nI_clamp (by omega), y2, pn, bd1_s]
      exact ⟨_, _, _, _, _, rfl, rfl⟩
    · have hw : (if (0 : Int32).toInt ≤ p2.toInt ∧ p2.toInt ≤ (nI C - 1).toInt then (1 : Int32) else 0) = 0 := if_neg (by rw [et, toInt_0]; omega)
      rw [hw, if_pos rfl]
      refine ⟨-1, Ksz, Kcl, Kke, rk, ?_, rfl⟩
      by_cases w : p2 < 0
      · rw [if_pos w]
      · rw [if_neg w, if_neg (by rw [lt_i, hz, nI_toInt (by omega)]; rw [lt_i, toInt_0] at w; omega)]
  · rw [a5, bd1_s, if_pos rfl]
    refine ⟨-2, Ksz, Kcl, Kke, rk, ?_, rfl⟩
    rcases a1 with c1 | ⟨c1, c2, c3⟩
    · rw [if_pos c1]
    · rw [if_neg c1, if_neg c3]
