/-! the pure side, p: the loops of a day -/
theorem upd_same (f : Nat → Int32) (k : Nat) : upd f k (f k) = f := by
  funext j
  by_cases e : j = k
  · subst e; rw [upd_s]
  · rw [upd_n e]
theorem grow_L {C : Nat} (hC : C ≤ 12) (Aba : Nat → Int32) (day lim low hig u : Int32) : ∀ (n z : Nat) (Aco : Nat → Int64), z ≤ C → C - z < n → ∃ Aco', fX5_growUntil_L2 (nI C) Aba day lim low hig u n Aco (nI z) = some Aco' ∧ ∀ i, Aco' i = if z ≤ i ∧ i < C then Aco i + growL lim low hig (Aba i) * (u - day).toInt64 else Aco i := by
  intro n
  induction n with
  | zero => intro z Aco h1 h2; omega
  | succ n ih =>
    intro z Aco h1 h2
    rw [fX5_growUntil_L2]
    by_cases e : z = C
    · subst e
      exact ⟨Aco, by rw [if_pos (nI_le (by omega) (by omega))], fun i => by rw [if_neg (by omega)]⟩
    · rw [if_neg (nI_ge (by omega) (by omega)), X0_balanceAt (by omega) hC, bd1_s, growth_i, bd1_s, X0_addCount (by omega) hC, bd1_s, nI_1]
      obtain ⟨A', g1, g2⟩ := ih (z + 1) (vp_updL Aco z (Aco z + growL lim low hig (Aba z) * (u - day).toInt64)) (by omega) (by omega)
      refine ⟨A', g1, fun i => ?_⟩
      rw [g2 i]
      by_cases w : i = z
      · subst w
        rw [if_neg (by omega), updL_s, if_pos ⟨by omega, by omega⟩]
      · by_cases w2 : z + 1 ≤ i ∧ i < C
        · rw [if_pos w2, if_pos ⟨by omega, by omega⟩, updL_n w]
        · rw [if_neg w2, if_neg (by omega), updL_n w]
theorem grow_i {C : Nat} (hC : C ≤ 12) (Aba : Nat → Int32) (Aco : Nat → Int64) (day lim low hig u : Int32) : ∃ Aco', fX5_growUntil (nI C) Aba Aco day lim low hig u = some (Aco', u) ∧ ∀ i, Aco' i = if i < C then Aco i + growL lim low hig (Aba i) * (u - day).toInt64 else Aco i := by
  obtain ⟨A', g1, g2⟩ := grow_L hC Aba day lim low hig u 2147483648 0 Aco (by omega) (by omega)
  rw [nI_0] at g1
  refine ⟨A', ?_, fun i => ?_⟩
  · unfold fX5_growUntil
    rw [g1, bd1_s]
  · rw [g2 i]
    by_cases c : i < C
    · rw [if_pos ⟨by omega, c⟩, if_pos c]
    · rw [if_neg (fun z => c z.2), if_neg c]
/-- the reference's day for one client -/
theorem dayOne {C z : Nat} (hC : C ≤ 12) (hz : z < C) {st : Nat → Int32} {gr : Nat → Int64} {lim low hig thr : Int32} (s1 : st 1 = lim) (s2 : st 2 = low) (s3 : st 3 = hig) (s4 : st 4 = thr) {b : Int32} {t : Int64} (eb : st (13 + 3 * z) = b) (et : gr z = t) (tb : Int32) (tk : Int64) (hb : 0 ≤ b.toInt ∧ b.toInt ≤ 1000000000) (h0 : 0 ≤ (t + growL lim low hig b).toInt) (p : Int32) :
    (bd2 (fX8_thinks st gr tb tk (nI z)) fun (tb_6 : Int32) (tk_7 : Int64) => fX8_dayEnds st tb_6 tk_7 p) = some (if p - p / 30 * 30 = 0 then (crI thr b (t + growL lim low hig b), b + crI thr b (t + growL lim low hig b), t + growL lim low hig b + -3650000 * (crI thr b (t + growL lim low hig b)).toInt64) else (0, b, t + growL lim low hig b)) := by
  have p1 : fX8_part st (nI z) 1 = some b := by
    have := M_part (c := z) (k := 1) (by omega) st
    rw [show 12 + 3 * z + 1 = 13 + 3 * z by omega, eb] at this
    exact this
  unfold fX8_thinks
  rw [p1, bd1_s, ckI_ok (by omega) (by omega), lts, nI_clamp (by omega), et, bd2_s]
  exact dayEnds_i s1 s2 s3 s4 hb h0 p
theorem thinks_i {C z : Nat} (hC : C ≤ 12) (hz : z < C) (st : Nat → Int32) (gr : Nat → Int64) (tb : Int32) (tk : Int64) : fX8_thinks st gr tb tk (nI z) = some (st (13 + 3 * z), gr z) := by
  have p1 : fX8_part st (nI z) 1 = some (st (13 + 3 * z)) := by
    have := M_part (c := z) (k := 1) (by omega) st
    rw [show 12 + 3 * z + 1 = 13 + 3 * z by omega] at this
    exact this
  unfold fX8_thinks
  rw [p1, bd1_s, ckI_ok (by omega) (by omega), lts, nI_clamp (by omega)]
theorem setBal_i {z : Nat} (hz : z < 12) (st : Nat → Int32) (v : Int32) : fX8_setPart st (nI z) 1 v = some (upd st (13 + 3 * z) v) := by
  have := M_setPart (c := z) (k := 1) (by omega) st v
  rw [show 12 + 3 * z + 1 = 13 + 3 * z by omega] at this
  exact this
theorem plain_L {C : Nat} (hC : C ≤ 12) {st : Nat → Int32} {lim low hig thr day : Int32} (s0 : st 0 = day) (s1 : st 1 = lim) (s2 : st 2 = low) (s3 : st 3 = hig) (s4 : st 4 = thr) (s5 : st 5 = nI C) (hd : ¬ day - day / 30 * 30 = 0) (z1 : Int64) : ∀ (n z : Nat) (gr : Nat → Int64) (tb : Int32) (tk : Int64), z ≤ C → C - z < n → (∀ i, z ≤ i → i < C → (0 ≤ (st (13 + 3 * i)).toInt ∧ (st (13 + 3 * i)).toInt ≤ 1000000000) ∧ 0 ≤ (gr i + growL lim low hig (st (13 + 3 * i))).toInt) → ∃ gr' tb' tk', fX8_passesDay_L14 n st gr tb tk z1 (nI z) = some (st, gr', tb', tk', z1) ∧ ∀ i, gr' i = if z ≤ i ∧ i < C then gr i + growL lim low hig (st (13 + 3 * i)) else gr i := by
  intro n
  induction n with
  | zero => intro z gr tb tk h1 h2; omega
  | succ n ih =>
    intro z gr tb tk h1 h2 h3
    rw [fX8_passesDay_L14, show ckI 5 336 _ = _ from ckI_ok (i := 5) (by omega) (by omega), show (5 : Int32).toNatClampNeg = 5 from rfl, s5]
    by_cases e : z = C
    · subst e
      exact ⟨gr, tb, tk, by rw [if_pos (nI_le (by omega) (by omega))], fun i => by rw [if_neg (by omega)]⟩
    · obtain ⟨q1, q2⟩ := h3 z (Nat.le_refl _) (by omega)
      rw [if_neg (nI_ge (by omega) (by omega)), thinks_i hC (by omega), bd2_s, show ckI 0 336 _ = _ from ckI_ok (i := 0) (by omega) (by omega), show (0 : Int32).toNatClampNeg = 0 from rfl, s0, dayEnds_i s1 s2 s3 s4 q1 q2, if_neg hd, bd3_s, setBal_i (by omega), bd1_s, upd_same, ckI_ok (by omega) (by omega), lts, nI_clamp (by omega), if_pos (by decide), nI_1]
      obtain ⟨g', tb', tk', g1, g2⟩ := ih (z + 1) (vp_updL gr z (gr z + growL lim low hig (st (13 + 3 * z)))) (st (13 + 3 * z)) (gr z + growL lim low hig (st (13 + 3 * z))) (by omega) (by omega) (fun i hi hi2 => by rw [updL_n (by omega)]; exact h3 i (by omega) hi2)
      refine ⟨g', tb', tk', g1, fun i => ?_⟩
      rw [g2 i]
      by_cases w : i = z
      · subst w
        rw [if_neg (by omega), updL_s, if_pos ⟨by omega, by omega⟩]
      · by_cases w2 : z + 1 ≤ i ∧ i < C
        · rw [if_pos w2, if_pos ⟨by omega, by omega⟩, updL_n w]
        · rw [if_neg w2, if_neg (by omega), updL_n w]
theorem credit_L {C dn : Nat} (hC : C ≤ 12) (hdn : dn ≤ 9999) {Anu : Nat → Int32} {lim low hig thr day : Int32} (hd : day - day / 30 * 30 = 0) : ∀ (n z E : Nat) (Aba Amo : Nat → Int32) (Aco Ac0 : Nat → Int64) (Tma Tlc : Int32) (Ttc : Nat → Int32) (cre : Int64) (st : Nat → Int32) (gr : Nat → Int64) (z1 : Int64) (tb : Int32) (tk : Int64), z ≤ C → C - z < n → E + (C - z) + 1 < 2 ^ 31 →
    CLr C (nI C) Anu Aba Amo (fun i => if i < z then Aco i else Ac0 i) st gr → (∀ i, z ≤ i → i < C → Aco i = Ac0 i + growL lim low hig (Aba i)) → CIv C Anu Aba Aco dn → TRr E Tma Tlc Ttc st → TIv E Ttc → (st 0 = day ∧ st 1 = lim ∧ st 2 = low ∧ st 3 = hig ∧ st 4 = thr) →
    ∃ Aba' Amo' Aco' T1 T2 T3 st' gr' E' tb' tk' s, fX5_creditAll_L2 (nI C) Anu day thr n Aba Amo Aco Tma Tlc Ttc cre (nI z) = some (Aba', Amo', Aco', T1, T2, T3, cre + s) ∧ fX8_passesDay_L14 n st gr tb tk z1 (nI z) = some (st', gr', tb', tk', z1 + s) ∧ CLr C (nI C) Anu Aba' Amo' Aco' st' gr' ∧ CIv C Anu Aba' Aco' dn ∧ TRr E' T1 T2 T3 st' ∧ TIv E' T3 ∧ E' ≤ E + (C - z) ∧ (∀ i, i < C → (Aba i).toInt ≤ (Aba' i).toInt) ∧ (∀ j, j < 10 → st' j = st j) ∧ (∀ j, 48 ≤ j → j < 168 → st' j = st j) ∧ (∀ j, 12 ≤ j → gr' j = gr j) ∧ 0 ≤ s.toInt ∧ s.toInt ≤ 1000000000 * ((C : Int) - z) := by
  intro n
  induction n with
  | zero => intro z E Aba Amo Aco Ac0 Tma Tlc Ttc cre st gr z1 tb tk h1 h2; omega
  | succ n ih =>
    intro z E Aba Amo Aco Ac0 Tma Tlc Ttc cre st gr z1 tb tk h1 h2 hE hc hco hi ht hv hs
    obtain ⟨s0, s1, s2, s3, s4⟩ := hs
    rw [fX8_passesDay_L14, fX5_creditAll_L2, show ckI 5 336 _ = _ from ckI_ok (i := 5) (by omega) (by omega), show (5 : Int32).toNatClampNeg = 5 from rfl, hc.1.2.1]
    by_cases e : z = C
    · subst e
      rw [if_pos (nI_le (by omega) (by omega)), if_pos (nI_le (by omega) (by omega))]
      refine ⟨Aba, Amo, Aco, Tma, Tlc, Ttc, st, gr, E, tb, tk, 0, by rw [Int64.add_zero], by rw [Int64.add_zero], ⟨hc.1, fun i hi => ?_⟩, hi, ht, hv, by omega, fun _ _ => Int.le_refl _, fun _ _ => rfl, fun _ _ _ => rfl, fun _ _ => rfl, by decide, by show (0 : Int) ≤ _; omega⟩
      have := hc.2 i hi
      simp only [if_pos hi] at this
      exact this
    · have hz : z < C := by omega
      obtain ⟨g1, g2, g3, g4⟩ := hc.2 z hz
      simp only [Nat.lt_irrefl, if_false] at g4
      have b := hi.1 z hz
      have eT := hco z (Nat.le_refl _) hz
      obtain ⟨r, er⟩ : ∃ r, r = crI thr (Aba z) (Aco z) := ⟨_, rfl⟩
      have hr := crI_b (thr := thr) (b := Aba z) (t := Aco z) (by omega) (by omega)
      rw [← er] at hr
      obtain ⟨v, ev⟩ : ∃ v, v = Aco z + -3650000 * r.toInt64 := ⟨_, rfl⟩
      have vt : v.toInt = (Aco z).toInt - 3650000 * r.toInt := by
        have k0 : (-3650000 : Int64).toInt = -3650000 := rfl
        have k1 : (-3650000 * r.toInt64).toInt = -3650000 * r.toInt := by rw [mul64 (by rw [k0, up64]; omega) (by rw [k0, up64]; omega), k0, up64]
        rw [ev, add64 (by rw [k1]; omega) (by rw [k1]; omega), k1]; omega
      have hbal : (Aba z + r).toInt = (Aba z).toInt + r.toInt := add_toInt (by omega) (by omega)
      have k0 : ∀ {β : Type} (k : Option β), ckI 0 336 k = k := fun k => ckI_ok (i := 0) (by omega) (by omega)
      rw [if_neg (nI_ge (by omega) (by omega)), if_neg (nI_ge (by omega) (by omega)), thinks_i hC hz, bd2_s, k0, show (0 : Int32).toNatClampNeg = 0 from rfl, s0, ← g2, ← g4, dayEnds_i s1 s2 s3 s4 (by omega) (by rw [← eT]; omega), if_pos hd, bd3_s, ← eT, ← er, ← ev, setBal_i (by omega), bd1_s, ckI_ok (by omega) (by omega), lts, nI_clamp (by omega)]
      rw [X0_balanceAt hz hC, bd1_s, X0_countAt hz hC, bd1_s, interest_i, ← er, bd1_s]
      have c1 : CLr C (nI C) Anu (upd Aba z (Aba z + r)) Amo (fun i => if i < z + 1 then vp_updL Aco z v i else Ac0 i) (upd st (13 + 3 * z) (Aba z + r)) (vp_updL gr z v) := by
        obtain ⟨q1, q2⟩ := CLr_bal hc hz (Aba z + r)
        refine ⟨q1, fun i hi => ?_⟩
        obtain ⟨w1, w2, w3, w4⟩ := q2 i hi
        refine ⟨w1, w2, w3, ?_⟩
        show (if i < z + 1 then vp_updL Aco z v i else Ac0 i) = vp_updL gr z v i
        by_cases d : i = z
        · subst d; rw [if_pos (by omega), updL_s, updL_s]
        · rw [updL_n d, updL_n d, ← w4]
          show (if i < z + 1 then Aco i else Ac0 i) = if i < z then Aco i else Ac0 i
          by_cases d2 : i < z
          · rw [if_pos d2, if_pos (by omega)]
          · rw [if_neg d2, if_neg (by omega)]
      have i1 : CIv C Anu (upd Aba z (Aba z + r)) (vp_updL Aco z v) dn := by
        refine ⟨fun i hi' => ?_, hi.2⟩
        have := hi.1 i hi'
        by_cases d : i = z
        · subst d; rw [upd_s, updL_s, hbal, vt]; omega
        · rw [upd_n d, updL_n d]; exact this
      have co1 : ∀ i, z + 1 ≤ i → i < C → vp_updL Aco z v i = Ac0 i + growL lim low hig (upd Aba z (Aba z + r) i) := fun i h1 h2 => by rw [updL_n (by omega), upd_n (by omega)]; exact hco i (by omega) h2
      by_cases q : r ≤ 0
      · have r0 : r = 0 := Int32.toInt_inj.mp (by rw [le_i, toInt_0] at q; rw [toInt_0]; omega)
        have bb : Aba z + r = Aba z := by rw [r0, Int32.add_zero]
        have vv : v = Aco z := by rw [ev, r0, z64, Int64.mul_zero, Int64.add_zero]
        have u1 : upd Aba z (Aba z + r) = Aba := by rw [bb, upd_same]
        have u2 : vp_updL Aco z v = Aco := by
          rw [vv]; funext j
          by_cases d : j = z
          · subst d; rw [updL_s]
          · rw [updL_n d]
        rw [if_pos q, if_pos q, nI_1]
        rw [u1, u2] at c1 i1
        rw [u1, u2] at co1
        obtain ⟨Aba', Amo', Aco', T1, T2, T3, st', gr', E', tb', tk', s, a1, a2, a3, a4, a5, a6, a7, a8, a9, a10, a11, a12, a13⟩ := ih (z + 1) E Aba Amo Aco Ac0 Tma Tlc Ttc cre (upd st (13 + 3 * z) (Aba z + r)) (vp_updL gr z v) z1 (Aba z + r) v (by omega) (by omega) (by omega) c1 co1 i1 (TRr_ext ht (upd_n (by omega)) (upd_n (by omega)) (fun j _ _ => upd_n (by omega))) hv ⟨by rw [upd_n (by omega)]; exact s0, by rw [upd_n (by omega)]; exact s1, by rw [upd_n (by omega)]; exact s2, by rw [upd_n (by omega)]; exact s3, by rw [upd_n (by omega)]; exact s4⟩
        exact ⟨Aba', Amo', Aco', T1, T2, T3, st', gr', E', tb', tk', s, a1, a2, a3, a4, a5, a6, by omega, a8, fun j hj => by rw [a9 j hj, upd_n (by omega)], fun j hj hj2 => by rw [a10 j hj hj2, upd_n (by omega)], fun j hj => by rw [a11 j hj, updL_n (by omega)], a12, by push_cast at a13; omega⟩
      · have r1 : 1 ≤ r.toInt := by rw [le_i, toInt_0] at q; omega
        have t1 : TRr E Tma Tlc Ttc (upd st (13 + 3 * z) (Aba z + r)) := TRr_ext ht (upd_n (by omega)) (upd_n (by omega)) (fun j _ _ => upd_n (by omega))
        have hEI : EIv 5 (Anu z) 0 r 0 := ⟨by decide, Or.inl rfl, fun e => absurd e (by decide), fun e => absurd e (by decide), fun e => absurd e (by decide)⟩
        obtain ⟨A1, U1, U2, U3, st1, e1, e2, e3, e4, e5, e6, e7, e8⟩ := enter_both (gr := vp_updL Aco z v) (day := day) (show CLr C (nI C) Anu (upd Aba z (Aba z + r)) Amo (vp_updL Aco z v) (upd st (13 + 3 * z) (Aba z + r)) (vp_updL Aco z v) from ⟨c1.1, fun i hi => ⟨(c1.2 i hi).1, (c1.2 i hi).2.1, (c1.2 i hi).2.2.1, rfl⟩⟩) i1 t1 hv (by omega) (by rw [upd_n (by omega)]; exact s0) hEI
        have c2 : CLr C (nI C) Anu (upd Aba z (Aba z + r)) A1 (fun i => if i < z + 1 then vp_updL Aco z v i else Ac0 i) st1 (vp_updL gr z v) := ⟨e4.1, fun i hi => ⟨(e4.2 i hi).1, (e4.2 i hi).2.1, (e4.2 i hi).2.2.1, (c1.2 i hi).2.2.2⟩⟩
        have pn : fX8_part (upd st (13 + 3 * z) (Aba z + r)) (nI z) 0 = some (Anu z) := by
          have e : fX8_part (upd st (13 + 3 * z) (Aba z + r)) (nI z) 0 = _ := M_part (c := z) (k := 0) (by omega) _
          rw [e, Nat.add_zero, upd_n (by omega), ← g1]
        have o1 : ∀ j, j < 10 → st1 j = st j := fun j hj => by rw [e7 j hj, upd_n (by omega)]
        obtain ⟨Aba', Amo', Aco', T1, T2, T3, st', gr', E', tb', tk', s, a1, a2, a3, a4, a5, a6, a7, a8, a9, a10, a11, a12, a13⟩ := ih (z + 1) (E + 1) (upd Aba z (Aba z + r)) A1 (vp_updL Aco z v) Ac0 U1 U2 U3 (cre + r.toInt64) st1 (vp_updL gr z v) (z1 + r.toInt64) (Aba z + r) v (by omega) (by omega) (by omega) c2 co1 i1 e5 e6 ⟨by rw [o1 0 (by omega)]; exact s0, by rw [o1 1 (by omega)]; exact s1, by rw [o1 2 (by omega)]; exact s2, by rw [o1 3 (by omega)]; exact s3, by rw [o1 4 (by omega)]; exact s4⟩
        have rs : (r.toInt64 + s).toInt = r.toInt + s.toInt := by rw [add64 (by rw [up64]; omega) (by rw [up64]; push_cast at a13; omega), up64]
        rw [if_neg q, if_neg q, X0_add hz hC, bd1_s, X0_addCount hz hC, bd1_s, lts, X0_numberAt hz hC, bd1_s, ← ev, e1, bd4_s, pn, bd1_s, e2, bd2_s, lts, nI_1]
        refine ⟨Aba', Amo', Aco', T1, T2, T3, st', gr', E', tb', tk', r.toInt64 + s, by rw [a1, Int64.add_assoc], by rw [a2, Int64.add_assoc], a3, a4, a5, a6, by omega, fun i hi => ?_, fun j hj => by rw [a9 j hj, o1 j hj], fun j hj hj2 => by rw [a10 j hj hj2, e8 j hj hj2, upd_n (by omega)], fun j hj => by rw [a11 j hj, updL_n (by omega)], by rw [rs]; omega, by rw [rs]; push_cast at a13; omega⟩
        have := a8 i hi
        by_cases d : i = z
        · subst d; rw [upd_s, hbal] at this; omega
        · rw [upd_n d] at this; exact this
