/-! the pure side, l: rates, threshold, opening -/
theorem rng_dec (p q : Int32) (hq : 0 ≤ q.toInt) : ((0 ≤ p.toInt ∧ p.toInt ≤ q.toInt) ∧ ¬ p < 0 ∧ ¬ q < p ∧ p ≤ q ∧ fX8_within p 0 q = some 1) ∨ ((p < 0 ∨ ¬ p < 0 ∧ q < p ∧ ¬ p ≤ q) ∧ fX8_within p 0 q = some 0) := by
  simp only [within_i, lt_i, le_i, toInt_0]
  by_cases c : 0 ≤ p.toInt ∧ p.toInt ≤ q.toInt
  · exact Or.inl ⟨c, by omega, by omega, by omega, by rw [if_pos c]⟩
  · exact Or.inr ⟨by omega, by rw [if_neg c]⟩
theorem op_rates {n : Nat} {Asz : Int32} {Anu : Nat → Int32} {Aba : Nat → Int32} {Amo : Nat → Int32} {Aco : Nat → Int64} {Hsz : Int32} {Hla : Int32} {Hce : Nat → Int32} {Bsz : Int32} {Bla : Int32} {Bce : Nat → Int32} {Tma : Int32} {Tlc : Int32} {Ttc : Nat → Int32} {day : Int32} {lim : Int32} {low : Int32} {hig : Int32} {thr : Int32} {off : Int64} {cre : Int64} {rcp : Int64} {pay : Int64} {st : Nat → Int32} {gr : Nat → Int64} (h : RS n Asz Anu Aba Amo Aco Hsz Hla Hce Bsz Bla Bce Tma Tlc Ttc day lim low hig thr off cre rcp pay st gr) {hi hi' : Nat → Int32} {gh gh' : Nat → Int64} {rc rc' : Int32} (hrec : fX8_record st gr hi gh rc = some (hi', gh', rc')) (p1 p2 p3 : Int32) :
    (∃ r : Int32, r < 0 ∧ fX5_changeRates lim low hig p1 p2 p3 = some (r, lim, low, hig) ∧ fX8_setRates st gr hi gh rc p1 p2 p3 = some (r, st, hi, gh, rc)) ∨
    (∃ r lim' low' hig' st', 0 ≤ r ∧ fX5_changeRates lim low hig p1 p2 p3 = some (r, lim', low', hig') ∧ fX8_setRates st gr hi gh rc p1 p2 p3 = some (r, st', hi', gh', rc') ∧ RS n Asz Anu Aba Amo Aco Hsz Hla Hce Bsz Bla Bce Tma Tlc Ttc day lim' low' hig' thr off cre rcp pay st' gr) := by
  obtain ⟨C, R, B, E, dn, h⟩ := h
  obtain ⟨hc, hI, hr, hrn, hh, hb, hbn, hbi, ht, hv, hE, hs⟩ := h
  have hR := hr.1.2.2.1
  have hB := hb.1.2.2.1
  unfold fX5_changeRates fX8_setRates
  rcases rng_dec p1 1000000000 (by decide) with ⟨a1, a2, a3, a4, a5⟩ | ⟨a1, a5⟩
  · rw [if_neg a2, if_neg a3, a5, bd1_s, if_neg n10]
    rcases rng_dec p2 2000 (by decide) with ⟨b1, b2, b3, b4, b5⟩ | ⟨b1, b5⟩
    · rw [if_neg b2, if_neg b3, b5, bd1_s, if_neg n10]
      rcases rng_dec p3 2000 (by decide) with ⟨c1, c2, c3, c4, c5⟩ | ⟨c1, c5⟩
      · have k1 : ∀ {β : Type} (k : Option β), ckI 1 336 k = k := fun k => ckI_ok (i := 1) (by omega) (by omega)
        have k2 : ∀ {β : Type} (k : Option β), ckI 2 336 k = k := fun k => ckI_ok (i := 2) (by omega) (by omega)
        have k3 : ∀ {β : Type} (k : Option β), ckI 3 336 k = k := fun k => ckI_ok (i := 3) (by omega) (by omega)
        rw [if_neg c2, if_pos c4, c5, bd1_s, if_neg n10, hrec, bd3_s, k1, lts, k1, lts, k2, lts, k3, lts, show (1 : Int32).toNatClampNeg = 1 from rfl, show (2 : Int32).toNatClampNeg = 2 from rfl, show (3 : Int32).toNatClampNeg = 3 from rfl]
        right
        have o : ∀ j, j ≠ 1 → j ≠ 2 → j ≠ 3 → (upd (upd (upd st 1 p1) 2 p2) 3 p3) j = st j := fun j h1 h2 h3 => by rw [upd_n h3, upd_n h2, upd_n h1]
        obtain ⟨d1, ⟨s0, s1, s2, s3, s4⟩, d3, d4⟩ := hs
        refine ⟨lim, p1, p2, p3, _, by rw [le_i, toInt_0]; exact d4.1.1, rfl, by rw [s1], ⟨C, R, B, E, dn, CLr_ext hc (o _ (by omega) (by omega) (by omega)) (fun j _ _ => o _ (by omega) (by omega) (by omega)) (fun _ _ => rfl), hI, RWr_ext hr (o _ (by omega) (by omega) (by omega)) (o _ (by omega) (by omega) (by omega)) (fun j hj => o _ (by omega) (by omega) (by omega)), hrn, hh, RWr_ext hb (o _ (by omega) (by omega) (by omega)) (o _ (by omega) (by omega) (by omega)) (fun j hj => o _ (by omega) (by omega) (by omega)), hbn, hbi, TRr_ext ht (o _ (by omega) (by omega) (by omega)) (o _ (by omega) (by omega) (by omega)) (fun j _ _ => o _ (by omega) (by omega) (by omega)), hv, hE, d1, ⟨?_, ?_, ?_, ?_, ?_⟩, d3, a1, b1, c1, d4.2.2.2⟩⟩
        · rw [upd_n (by omega), upd_n (by omega), upd_n (by omega)]; exact s0
        · rw [upd_n (by omega), upd_n (by omega), upd_s]
        · rw [upd_n (by omega), upd_s]
        · rw [upd_s]
        · rw [upd_n (by omega), upd_n (by omega), upd_n (by omega)]; exact s4
      · rw [c5, bd1_s, if_pos rfl]
        refine Or.inl ⟨-2, by decide, ?_, rfl⟩
        rcases c1 with c1 | ⟨c1, c2, c3⟩
        · rw [if_pos c1]
        · rw [if_neg c1, if_neg c3]
    · rw [b5, bd1_s, if_pos rfl]
      refine Or.inl ⟨-2, by decide, ?_, rfl⟩
      rcases b1 with c1 | ⟨c1, c2, c3⟩
      · rw [if_pos c1]
      · rw [if_neg c1, if_pos c2]
  · rw [a5, bd1_s, if_pos rfl]
    refine Or.inl ⟨-2, by decide, ?_, rfl⟩
    rcases a1 with c1 | ⟨c1, c2, c3⟩
    · rw [if_pos c1]
    · rw [if_neg c1, if_pos c2]
theorem op_threshold {n : Nat} {Asz : Int32} {Anu : Nat → Int32} {Aba : Nat → Int32} {Amo : Nat → Int32} {Aco : Nat → Int64} {Hsz : Int32} {Hla : Int32} {Hce : Nat → Int32} {Bsz : Int32} {Bla : Int32} {Bce : Nat → Int32} {Tma : Int32} {Tlc : Int32} {Ttc : Nat → Int32} {day : Int32} {lim : Int32} {low : Int32} {hig : Int32} {thr : Int32} {off : Int64} {cre : Int64} {rcp : Int64} {pay : Int64} {st : Nat → Int32} {gr : Nat → Int64} (h : RS n Asz Anu Aba Amo Aco Hsz Hla Hce Bsz Bla Bce Tma Tlc Ttc day lim low hig thr off cre rcp pay st gr) {hi hi' : Nat → Int32} {gh gh' : Nat → Int64} {rc rc' : Int32} (hrec : fX8_record st gr hi gh rc = some (hi', gh', rc')) (p1 : Int32) :
    (∃ r : Int32, r < 0 ∧ fX5_changeThreshold thr p1 = some (r, thr) ∧ fX8_setThreshold st gr hi gh rc p1 = some (r, st, hi, gh, rc)) ∨
    (∃ r thr' st', 0 ≤ r ∧ fX5_changeThreshold thr p1 = some (r, thr') ∧ fX8_setThreshold st gr hi gh rc p1 = some (r, st', hi', gh', rc') ∧ RS n Asz Anu Aba Amo Aco Hsz Hla Hce Bsz Bla Bce Tma Tlc Ttc day lim low hig thr' off cre rcp pay st' gr) := by
  obtain ⟨C, R, B, E, dn, h⟩ := h
  obtain ⟨hc, hI, hr, hrn, hh, hb, hbn, hbi, ht, hv, hE, hs⟩ := h
  have hR := hr.1.2.2.1
  have hB := hb.1.2.2.1
  unfold fX5_changeThreshold fX8_setThreshold
  rcases rng_dec p1 10000 (by decide) with ⟨a1, a2, a3, a4, a5⟩ | ⟨a1, a5⟩
  · have k4 : ∀ {β : Type} (k : Option β), ckI 4 336 k = k := fun k => ckI_ok (i := 4) (by omega) (by omega)
    rw [if_neg a2, if_pos a4, a5, bd1_s, if_neg n10, hrec, bd3_s, k4, lts, k4, lts, show (4 : Int32).toNatClampNeg = 4 from rfl]
    right
    have o : ∀ j, j ≠ 4 → (upd st 4 p1) j = st j := fun j h1 => upd_n h1
    obtain ⟨d1, ⟨s0, s1, s2, s3, s4⟩, d3, d4⟩ := hs
    refine ⟨thr, p1, _, by rw [le_i, toInt_0]; exact d4.2.2.2.1, rfl, by rw [s4], ⟨C, R, B, E, dn, CLr_ext hc (o _ (by omega)) (fun j _ _ => o _ (by omega)) (fun _ _ => rfl), hI, RWr_ext hr (o _ (by omega)) (o _ (by omega)) (fun j hj => o _ (by omega)), hrn, hh, RWr_ext hb (o _ (by omega)) (o _ (by omega)) (fun j hj => o _ (by omega)), hbn, hbi, TRr_ext ht (o _ (by omega)) (o _ (by omega)) (fun j _ _ => o _ (by omega)), hv, hE, d1, ⟨?_, ?_, ?_, ?_, upd_s _ _ _⟩, d3, d4.1, d4.2.1, d4.2.2.1, a1⟩⟩
    · rw [upd_n (by omega)]; exact s0
    · rw [upd_n (by omega)]; exact s1
    · rw [upd_n (by omega)]; exact s2
    · rw [upd_n (by omega)]; exact s3
  · rw [a5, bd1_s, if_pos rfl]
    refine Or.inl ⟨-2, by decide, ?_, rfl⟩
    rcases a1 with c1 | ⟨c1, c2, c3⟩
    · rw [if_pos c1]
    · rw [if_neg c1, if_neg c3]
/-! rows of clients move -/
theorem X0_copyRow {C a b : Nat} (hC : C ≤ 12) (ha : a < C) (hb : b < C) (nu ba mo : Nat → Int32) (co : Nat → Int64) : fX0_copyRow (nI C) nu ba mo co (nI a) (nI b) = some (upd nu b (nu a), upd ba b (ba a), upd mo b (mo a), vp_updL co b (co a)) := by
  have ka : ∀ {β : Type} (k : Option β), ckI (nI a) 12 k = k := fun k => ckI_ok (by omega) (by omega)
  have kb : ∀ {β : Type} (k : Option β), ckI (nI b) 12 k = k := fun k => ckI_ok (by omega) (by omega)
  unfold fX0_copyRow
  rw [X0_place ha hC, bd1_s, if_neg n10, X0_place hb hC, bd1_s, if_neg n10, ka, kb, lts, ka, kb, lts, ka, kb, lts, ka, kb, lts, nI_clamp (by omega), nI_clamp (by omega)]
theorem M_open69_L {z : Nat} (h1 : 1 ≤ z) (h2 : z ≤ 12) (u1 : Int32) : ∀ (n k : Nat) (st : Nat → Int32), k ≤ 3 → 3 - k < n → ∃ st', fX8_open_L69 u1 (nI z) n st (nI k) = some st' ∧ ∀ j, st' j = if 12 + 3 * z + k ≤ j ∧ j < 15 + 3 * z then st (j - 3) else st j := by
  intro n
  induction n with
  | zero => intro k st h3 h4; omega
  | succ n ih =>
    intro k st h3 h4
    rw [fX8_open_L69]
    by_cases e : k = 3
    · subst e
      exact ⟨st, by rw [if_pos (by decide)], fun j => by rw [if_neg (by omega)]⟩
    · have hk : ¬ (3 : Int32) ≤ nI k := by rw [le_i, nI_toInt (by omega), show (3 : Int32).toInt = 3 from rfl]; omega
      have p1 : fX8_part st (nI z - 1) (nI k) = some (st (12 + 3 * (z - 1) + k)) := by
        rw [show nI z - 1 = nI (z - 1) from nI_sub (b := 1) h1]
        exact M_part (c := z - 1) (k := k) (by omega) st
      rw [if_neg hk, p1, bd1_s, M_setPart (c := z) (k := k) (by omega), bd1_s, nI_1]
      obtain ⟨st', g1, g2⟩ := ih (k + 1) (upd st (12 + 3 * z + k) (st (12 + 3 * (z - 1) + k))) (by omega) (by omega)
      refine ⟨st', g1, fun j => ?_⟩
      rw [g2 j]
      by_cases w : j = 12 + 3 * z + k
      · subst w
        rw [if_neg (by omega), upd_s, if_pos ⟨by omega, by omega⟩]
        exact congrArg st (by omega)
      · by_cases w2 : 12 + 3 * z + (k + 1) ≤ j ∧ j < 15 + 3 * z
        · rw [if_pos w2, if_pos ⟨by omega, by omega⟩, upd_n (by omega)]
        · rw [if_neg w2, if_neg (by omega), upd_n w]
theorem open_L {C : Nat} (hC : C < 12) (p dy : Int32) : ∀ (n z : Nat) (nu ba mo : Nat → Int32) (co : Nat → Int64) (st : Nat → Int32) (gr : Nat → Int64), z ≤ C → z < n → (∀ i, i ≤ C → i ≠ z → nu i = st (12 + 3 * i) ∧ ba i = st (13 + 3 * i) ∧ mo i = st (14 + 3 * i) ∧ co i = gr i) →
    ∃ nu' ba' mo' co' st' gr' w, fX0_insert_L25 (nI (C + 1)) p dy n nu ba mo co (nI z) = some (nu', ba', mo', co', nI w) ∧ fX8_open_L51 p n st gr (nI z) = some (st', gr', nI w) ∧ w ≤ z ∧ (∀ i, i ≤ C → i ≠ w → nu' i = st' (12 + 3 * i) ∧ ba' i = st' (13 + 3 * i) ∧ mo' i = st' (14 + 3 * i) ∧ co' i = gr' i) ∧ (∀ i, i ≠ w → (nu' i = nu (if w < i ∧ i ≤ z then i - 1 else i) ∧ ba' i = ba (if w < i ∧ i ≤ z then i - 1 else i) ∧ mo' i = mo (if w < i ∧ i ≤ z then i - 1 else i) ∧ co' i = co (if w < i ∧ i ≤ z then i - 1 else i))) ∧ (∀ j, j < 12 ∨ 48 ≤ j → st' j = st j) ∧ (∀ j, 12 ≤ j → gr' j = gr j) ∧ (w = 0 ∨ ¬ p.toInt < (nu (w - 1)).toInt) ∧ (∀ i, w ≤ i → i < z → p.toInt < (nu i).toInt) := by
  intro n
  induction n with
  | zero => intro z nu ba mo co st gr h1 h2; omega
  | succ n ih =>
    intro z nu ba mo co st gr h1 h2 hr
    rw [fX0_insert_L25, fX8_open_L51]
    by_cases e : z = 0
    · subst e
      rw [if_pos (show nI 0 ≤ 0 by decide), if_pos (show nI 0 ≤ 0 by decide)]
      exact ⟨nu, ba, mo, co, st, gr, 0, rfl, rfl, Nat.le_refl _, hr, fun i hi => by rw [if_neg (by omega)]; exact ⟨rfl, rfl, rfl, rfl⟩, fun _ _ => rfl, fun _ _ => rfl, Or.inl rfl, fun i h1 h2 => by omega⟩
    · have z0 : ¬ nI z ≤ 0 := nle0 (by rw [nI_toInt (by omega)]; omega)
      have zm : nI z - 1 = nI (z - 1) := nI_sub (b := 1) (by omega)
      have zm' : nI z + -1 = nI (z - 1) := by rw [← zm, Int32.sub_eq_add_neg]
      obtain ⟨r1, r2, r3, r4⟩ := hr (z - 1) (by omega) (by omega)
      have p0 : fX8_part st (nI (z - 1)) 0 = some (nu (z - 1)) := by
        have e : fX8_part st (nI (z - 1)) 0 = _ := M_part (c := z - 1) (k := 0) (by omega) st
        rw [e, r1, Nat.add_zero]
      rw [if_neg z0, if_neg z0, zm, X0_numberAt (by omega) (by omega), bd1_s, p0, bd1_s]
      by_cases q : nu (z - 1) ≤ p
      · rw [if_pos q, if_pos q]
        rw [le_i] at q
        exact ⟨nu, ba, mo, co, st, gr, z, rfl, rfl, Nat.le_refl _, hr, fun i hi => by rw [if_neg (by omega)]; exact ⟨rfl, rfl, rfl, rfl⟩, fun _ _ => rfl, fun _ _ => rfl, Or.inr (by omega), fun i h1 h2 => by omega⟩
      · obtain ⟨s1, g1, g2⟩ := M_open69_L (z := z) (by omega) (by omega) p 2147483648 0 st (by omega) (by omega)
        rw [nI_0] at g1
        rw [if_neg q, if_neg q, X0_copyRow (by omega) (by omega) (by omega), bd4_s, g1, bd1_s, ckI_ok (by omega) (by omega), ckI_ok (by omega) (by omega), lts, nI_clamp (by omega), nI_clamp (by omega), zm']
        have q' : p.toInt < (nu (z - 1)).toInt := by rw [le_i] at q; omega
        obtain ⟨nu', ba', mo', co', st', gr', w, a1, a2, a3, a4, a5, a6, a7, a8, a9⟩ := ih (z - 1) (upd nu z (nu (z - 1))) (upd ba z (ba (z - 1))) (upd mo z (mo (z - 1))) (vp_updL co z (co (z - 1))) s1 (vp_updL gr z (gr (z - 1))) (by omega) (by omega) (fun i hi hne => by
          rw [g2, g2, g2]
          by_cases w : i = z
          · subst w
            rw [upd_s, upd_s, upd_s, updL_s, updL_s, if_pos ⟨by omega, by omega⟩, if_pos ⟨by omega, by omega⟩, if_pos ⟨by omega, by omega⟩, show 12 + 3 * i - 3 = 12 + 3 * (i - 1) by omega, show 13 + 3 * i - 3 = 13 + 3 * (i - 1) by omega, show 14 + 3 * i - 3 = 14 + 3 * (i - 1) by omega]
            exact ⟨r1, r2, r3, r4⟩
          · rw [upd_n w, upd_n w, upd_n w, updL_n w, updL_n w, if_neg (by omega), if_neg (by omega), if_neg (by omega)]
            exact hr i hi w)
        refine ⟨nu', ba', mo', co', st', gr', w, a1, a2, by omega, a4, fun i hi => ?_, fun j hj => ?_, fun j hj => ?_, ?_, fun i h1 h2 => ?_⟩
        · obtain ⟨b1, b2, b3, b4⟩ := a5 i hi
          rw [b1, b2, b3, b4]
          by_cases c1 : w < i ∧ i ≤ z - 1
          · rw [if_pos c1, if_pos ⟨c1.1, by omega⟩, upd_n (by omega), upd_n (by omega), upd_n (by omega), updL_n (by omega)]
            exact ⟨rfl, rfl, rfl, rfl⟩
          · rw [if_neg c1]
            by_cases c2 : i = z
            · subst c2
              rw [if_pos ⟨by omega, by omega⟩, upd_s, upd_s, upd_s, updL_s]
              exact ⟨rfl, rfl, rfl, rfl⟩
            · rw [if_neg (by omega), upd_n c2, upd_n c2, upd_n c2, updL_n c2]
              exact ⟨rfl, rfl, rfl, rfl⟩
        · rw [a6 j hj, g2 j, if_neg (by omega)]
        · rw [a7 j hj, updL_n (by omega)]
        · rcases a8 with c | c
          · exact Or.inl c
          · by_cases c3 : w = 0
            · exact Or.inl c3
            · rw [upd_n (by omega)] at c
              exact Or.inr c
        · by_cases c : i = z - 1
          · subst c; exact q'
          · have := a9 i h1 (by omega)
            rw [upd_n (by omega)] at this
            exact this
