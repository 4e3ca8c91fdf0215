/-! days that pass: one day's clients, on both sides -/
def QB (d : Nat) (lim low hig thr : Int32) (qq : Nat → Int32) : Prop := qq 0 = nI d ∧ qq 1 = lim ∧ qq 2 = low ∧ qq 3 = hig ∧ qq 4 = thr
section DY
variable {lim low hig thr : Int32} {d : Nat}
/-- a day without a credit: the counts grow -/
theorem plain_b (hg : RG lim low hig thr) (hd : d ≤ 9000) {Asz : Int32} {Anu Aba Amo qq ee : Nat → Int32} (u0 u7 : Int32) (hq : QB (d + 1) lim low hig thr qq) (hno : ¬ (d + 1) % 30 = 0) : ∀ (n z : Nat) (mm : Nat → Int64) (zs : Int64), 1 ≤ z → z ≤ 7 → 7 - z < n → CLB Asz Anu Aba Amo mm qq → (∀ c, z ≤ c → c < 7 → pq qq c = true → (0 ≤ (mm c).toInt ∧ (mm c).toInt ≤ 1000000000) ∧ (0 ≤ (mm (10 + c)).toInt ∧ (mm (10 + c)).toInt ≤ 2000000000000 * (d : Int))) →
    ∃ mm', fL_pass_L22 u0 u7 n ee mm qq zs (nI z) = some (ee, mm', qq, zs) ∧ (∀ j, j < 10 ∨ 17 ≤ j → mm' j = mm j) ∧ ∀ c, c < 7 → pq qq c = true → mm' (10 + c) = if z ≤ c then mm (10 + c) + growL lim low hig (Aba (rk (pq qq) c)) else mm (10 + c) := by
  intro n
  induction n with
  | zero => intro z mm zs h1 h2 h3; omega
  | succ n ih =>
    intro z mm zs h1 h2 h3 hc hm
    rw [fL_pass_L22]
    by_cases e : z = 7
    · subst e
      rw [if_pos (show (7 : Int32) ≤ nI 7 from nI_le (a := 7) (by omega) (by omega))]
      exact ⟨mm, rfl, fun _ _ => rfl, fun c hc _ => by rw [if_neg (by omega)]⟩
    · have k0 : ∀ {β : Type} (k : Option β), ckI 0 18 k = k := fun k => ckI_ok (i := 0) (by omega) (by omega)
      have z0 : (0 : Int32).toNatClampNeg = 0 := rfl
      rw [if_neg (show ¬ (7 : Int32) ≤ nI z from nI_ge (b := 7) (by omega) (by omega)), k18 (by omega), c18 (by omega)]
      cases hp : pq qq z with
      | false =>
        have w : ¬ (0 : Int) ≤ (qq (10 + z)).toInt := of_decide_eq_false hp
        rw [if_neg (show ¬ (0 : Int32) ≤ qq (10 + z) by rw [le_i, toInt_0]; exact w), nI_1]
        obtain ⟨mm', e1, e2, e3⟩ := ih (z + 1) mm zs (by omega) (by omega) (by omega) hc (fun c c1 c2 hpc => hm c (by omega) c2 hpc)
        refine ⟨mm', e1, e2, fun c c1 hpc => ?_⟩
        rw [e3 c c1 hpc]
        by_cases q : z + 1 ≤ c
        · rw [if_pos q, if_pos (by omega)]
        · rw [if_neg q]
          have : c ≠ z := fun w => by subst w; rw [hp] at hpc; cases hpc
          rw [if_neg (by omega)]
      | true =>
        have w : (0 : Int) ≤ (qq (10 + z)).toInt := of_decide_eq_true hp
        have hnz := pq_ne hc (by omega) hp
        obtain ⟨b1, b2⟩ := hm z (Nat.le_refl _) (by omega) hp
        obtain ⟨m', i1, i2, i3, i4⟩ := l_interest (next := d + 1) (b := Aba (rk (pq qq) z)) hg hq.2 hnz.1 (by omega) (D := d) (by omega) (by omega) b1 b2 (hc.2.2.2 z (by omega) hp).2.1.symm rfl
        have r0 : sR lim low hig thr (d + 1) (Aba (rk (pq qq) z)) (mm (10 + z)) = 0 := by unfold sR; rw [if_neg hno]
        rw [r0] at i1 i2 i3
        rw [Int32.add_zero] at i2
        rw [z64, Int64.mul_zero, Int64.add_zero] at i3
        rw [z64] at i1
        rw [if_pos (show (0 : Int32) ≤ qq (10 + z) by rw [le_i, toInt_0]; exact w), k0, z0, hq.1, i1, bd2_s, if_pos (show (0 : Int64) ≤ 0 from Int64.le_refl _), lts, Int64.add_zero, nI_1]
        have i2' : m' z = mm z := by rw [i2]; exact (hc.2.2.2 z (by omega) hp).2.1
        have io : ∀ j, j ≠ 10 + z → m' j = mm j := fun j hj => by
          by_cases q : j = z
          · subst q; exact i2'
          · exact i4 j q hj
        obtain ⟨mm', e1, e2, e3⟩ := ih (z + 1) m' zs (by omega) (by omega) (by omega) (CLB_ext hc (fun c c1 => io c (by omega))) (fun c c1 c2 hpc => by rw [io c (by omega), io (10 + c) (by omega)]; exact hm c (by omega) c2 hpc)
        refine ⟨mm', e1, fun j hj => by rw [e2 j hj, io j (by omega)], fun c c1 hpc => ?_⟩
        rw [e3 c c1 hpc]
        by_cases q : z + 1 ≤ c
        · rw [if_pos q, if_pos (by omega), io _ (by omega)]
        · rw [if_neg q]
          by_cases q2 : c = z
          · subst q2; rw [if_pos (Nat.le_refl _), i3]
          · rw [if_neg (by omega), io _ (by omega)]
/-- a day with a credit -/
theorem credit_b (hg : RG lim low hig thr) (hd : d ≤ 9000) {Asz : Int32} {Anu : Nat → Int32} {P : Nat → Bool} (u0 u7 : Int32) (hyes : (d + 1) % 30 = 0) : ∀ (n k z E : Nat) (Aba Amo : Nat → Int32) (Aco : Nat → Int64) (Tma Tlc : Int32) (Ttc : Nat → Int32) (cre : Int64) (ee : Nat → Int32) (mm : Nat → Int64) (qq : Nat → Int32) (zs : Int64), pq qq = P → 1 ≤ z → z ≤ 7 → 7 - z < n → rk P 7 - rk P z < k → E + (7 - z) + 1 < 2 ^ 29 → QB (d + 1) lim low hig thr qq → CLB Asz Anu Aba Amo mm qq → TRB E Tma Tlc Ttc mm qq ee →
    (∀ c, c < 7 → P c = true → Aco (rk P c) = if c < z then mm (10 + c) else mm (10 + c) + growL lim low hig (Aba (rk P c))) → (∀ c, c < 7 → P c = true → (0 ≤ (mm c).toInt ∧ (mm c).toInt ≤ 1000000000) ∧ 0 ≤ (mm (10 + c)).toInt ∧ (mm (10 + c)).toInt ≤ 2000000000000 * (if c < z then (d : Int) + 1 else (d : Int))) →
    ∃ E' Aba' Amo' Aco' T2 T3 ee' mm' qq' s, fX5_creditAll_L2 Asz Anu (nI (d + 1)) thr k Aba Amo Aco Tma Tlc Ttc cre (nI (rk P z)) = some (Aba', Amo', Aco', nI E', T2, T3, cre + s) ∧ fL_pass_L22 u0 u7 n ee mm qq zs (nI z) = some (ee', mm', qq', zs + s) ∧ pq qq' = P ∧ E' ≤ E + (7 - z) ∧ CLB Asz Anu Aba' Amo' mm' qq' ∧ TRB E' (nI E') T2 T3 mm' qq' ee' ∧ CTB Aco' mm' qq' ∧ CIB (d + 1) mm' qq' ∧ (∀ j, 17 ≤ j → j < 24 → mm' j = mm j) ∧ (∀ j, j ≠ 5 → j < 10 → qq' j = qq j) ∧ (∀ c, c < 7 → P c = true → (mm c).toInt ≤ (mm' c).toInt) ∧ sumC P mm' 7 = sumC P mm 7 + s := by
  intro n
  induction n with
  | zero => intro k z E Aba Amo Aco Tma Tlc Ttc cre ee mm qq zs h0 h1 h2 h3; omega
  | succ n ih =>
    intro k z E Aba Amo Aco Tma Tlc Ttc cre ee mm qq zs h0 h1 h2 h3 h4 hE hq hc ht hco hm
    obtain ⟨k', ek⟩ : ∃ k', k = k' + 1 := ⟨k - 1, by omega⟩
    have hz7 : Asz = nI (rk P 7) := by rw [hc.1, h0]
    have hR7 := rk_bd P 7
    rw [fL_pass_L22]
    by_cases e : z = 7
    · subst e
      subst ek
      rw [if_pos (show (7 : Int32) ≤ nI 7 from nI_le (a := 7) (by omega) (by omega)), fX5_creditAll_L2, hz7, if_pos (Int32.le_refl _)]
      have tm := ht.1
      refine ⟨E, Aba, Amo, Aco, Tlc, Ttc, ee, mm, qq, 0, by rw [tm, Int64.add_zero], by rw [Int64.add_zero], h0, by omega, by rw [← hz7]; exact hc, by rw [← tm]; exact ht, fun c c1 hpc => ?_, fun c c1 hpc => ?_, fun _ _ _ => rfl, fun _ _ _ => rfl, fun _ _ _ => Int.le_refl _, by rw [Int64.add_zero]⟩
      · rw [h0] at hpc ⊢
        have := hco c c1 hpc
        rw [if_pos c1] at this
        exact this
      · rw [h0] at hpc
        have := hm c c1 hpc
        rw [if_pos c1] at this
        push_cast
        exact ⟨this.1.1, this.1.2, this.2⟩
    · have k0 : ∀ {β : Type} (k : Option β), ckI 0 18 k = k := fun k => ckI_ok (i := 0) (by omega) (by omega)
      have z0 : (0 : Int32).toNatClampNeg = 0 := rfl
      rw [if_neg (show ¬ (7 : Int32) ≤ nI z from nI_ge (b := 7) (by omega) (by omega)), k18 (by omega), c18 (by omega)]
      cases hp : P z with
      | false =>
        have hpq : pq qq z = false := by rw [h0]; exact hp
        have w : ¬ (0 : Int) ≤ (qq (10 + z)).toInt := of_decide_eq_false hpq
        rw [if_neg (show ¬ (0 : Int32) ≤ qq (10 + z) by rw [le_i, toInt_0]; exact w), nI_1]
        have rz := rk_f hp
        have ne : ∀ c, P c = true → c ≠ z := fun c hpc w => by subst w; rw [hp] at hpc; cases hpc
        obtain ⟨E', Aba', Amo', Aco', T2, T3, ee', mm', qq', s, a1, a2, a3, a4, a5⟩ := ih k (z + 1) E Aba Amo Aco Tma Tlc Ttc cre ee mm qq zs h0 (by omega) (by omega) (by omega) (by rw [rz]; exact h4) (by omega) hq hc ht (fun c c1 hpc => by
          have := hco c c1 hpc
          have := ne c hpc
          by_cases q : c < z
          · rw [if_pos (by omega)]; rw [if_pos q] at *; assumption
          · rw [if_neg (by omega)]; rw [if_neg q] at *; assumption) (fun c c1 hpc => by
          have g := hm c c1 hpc
          have := ne c hpc
          by_cases q : c < z
          · rw [if_pos (by omega)]; rw [if_pos q] at g; exact g
          · rw [if_neg (by omega)]; rw [if_neg q] at g; exact g)
        rw [rz] at a1
        exact ⟨E', Aba', Amo', Aco', T2, T3, ee', mm', qq', s, a1, a2, a3, by omega, a5⟩
      | true =>
        subst ek
        have hpq : pq qq z = true := by rw [h0]; exact hp
        have w : (0 : Int) ≤ (qq (10 + z)).toInt := of_decide_eq_true hpq
        have hnz := pq_ne hc (by omega) hpq
        have rz := rk_s hp
        have hlt := rk_lt hp (show z < 7 by omega)
        have g1 := hc.2.2.2 z (by omega) hpq
        rw [h0] at g1
        obtain ⟨b1, b2, b3⟩ := hm z (by omega) hp
        rw [if_neg (Nat.lt_irrefl z)] at b3
        have hA := hco z (by omega) hp
        rw [if_neg (Nat.lt_irrefl z)] at hA
        obtain ⟨m', i1, i2, i3, i4⟩ := l_interest (next := d + 1) (b := Aba (rk P z)) hg hq.2 hnz.1 (by omega) (D := d) (by omega) (by omega) b1 ⟨b2, b3⟩ g1.2.1.symm rfl
        obtain ⟨r, er⟩ : ∃ r, r = sR lim low hig thr (d + 1) (Aba (rk P z)) (mm (10 + z)) := ⟨_, rfl⟩
        have rc : crI thr (Aba (rk P z)) (Aco (rk P z)) = r := by rw [er, hA]; unfold sR; rw [if_pos hyes]
        have bz : 0 ≤ (Aba (rk P z)).toInt ∧ (Aba (rk P z)).toInt ≤ 1000000000 := by rw [← up64, g1.2.1]; exact b1
        have sb := sR_b (next := d + 1) (thr := thr) hg (show d ≤ 11000 by omega) bz ⟨b2, b3⟩
        rw [← er] at i1 i2 i3 sb
        have mono : (mm z).toInt ≤ (m' z).toInt := by rw [i2, up64, sb.2.2.1, ← g1.2.1, up64]; omega
        rw [if_pos (show (0 : Int32) ≤ qq (10 + z) by rw [le_i, toInt_0]; exact w), k0, z0, hq.1, i1, bd2_s]
        rw [fX5_creditAll_L2, hz7, if_neg (nI_ge hlt (by omega)), X0_balanceAt hlt (by omega), bd1_s, X0_countAt hlt (by omega), bd1_s, interest_i, bd1_s, rc]
        have nx1 : ∀ c, c < 7 → c ≠ z → m' c = mm c ∧ m' (10 + c) = mm (10 + c) := fun c c1 c2 => ⟨i4 c c2 (by omega), i4 (10 + c) (by omega) (by omega)⟩
        have hs1 : sumC P m' 7 = sumC P mm 7 + r.toInt64 := by
          have up := sumC_up (t := P) (a := fun j => if j < 7 then mm j else 0) (b := fun j => if j < 7 then m' j else 0) (c := z) (v := r.toInt64) hp (by
            show (if z < 7 then m' z else 0) = (if z < 7 then mm z else 0) + r.toInt64
            rw [if_pos (by omega), if_pos (by omega), i2, sb.2.2.2.2.1, g1.2.1]) (fun j hj => by
            show (if j < 7 then m' j else 0) = (if j < 7 then mm j else 0)
            by_cases q : j < 7
            · rw [if_pos q, if_pos q, (nx1 j q hj).1]
            · rw [if_neg q, if_neg q]) 7 (by omega)
          have c1 := sumC_cong (t := P) (u := P) (a := m') (b := fun j => if j < 7 then m' j else 0) 7 (fun i hi => ⟨rfl, fun _ => by show m' i = if i < 7 then m' i else 0; rw [if_pos hi]⟩)
          have c2 := sumC_cong (t := P) (u := P) (a := mm) (b := fun j => if j < 7 then mm j else 0) 7 (fun i hi => ⟨rfl, fun _ => by show mm i = if i < 7 then mm i else 0; rw [if_pos hi]⟩)
          rw [c1, c2]
          exact up
        by_cases q : r ≤ 0
        · have r0 : r = 0 := Int32.toInt_inj.mp (by rw [le_i, toInt_0] at q; rw [toInt_0]; omega)
          have q64 : r.toInt64 ≤ 0 := by rw [r0, z64]; exact Int64.le_refl _
          rw [if_pos q, if_pos q64, lts, nI_1, nI_1]
          rw [r0, Int32.add_zero] at i2
          rw [r0, z64, Int64.mul_zero, Int64.add_zero] at i3
          rw [r0, z64, Int64.add_zero] at hs1
          rw [r0, z64, Int64.add_zero]
          have mz : m' z = mm z := by rw [i2, g1.2.1]
          have io : ∀ j, j ≠ 10 + z → m' j = mm j := fun j hj => by
            by_cases q : j = z
            · subst q; exact mz
            · exact i4 j q hj
          have ht2 : TRB E Tma Tlc Ttc m' qq ee := by
            obtain ⟨w1, w2, w3, w4⟩ := ht
            exact ⟨w1, w2, by rw [io 24 (by omega)]; exact w3, w4⟩
          obtain ⟨E', Aba', Amo', Aco', T2, T3, ee', mm', qq', s, a1, a2, a3, a4, a5, a6, a7, a8, a9, a10, a11, a12⟩ := ih k' (z + 1) E Aba Amo Aco Tma Tlc Ttc cre ee m' qq zs h0 (by omega) (by omega) (by omega) (by rw [rz]; omega) (by omega) hq (CLB_ext hc (fun c c1 => io c (by omega))) ht2 (fun c c1 hpc => by
            by_cases v : c = z
            · subst v; rw [if_pos (by omega), i3, hA]
            · rw [(nx1 c c1 v).2]
              have g := hco c c1 hpc
              by_cases q : c < z
              · rw [if_pos (by omega)]; rw [if_pos q] at g; exact g
              · rw [if_neg (by omega)]; rw [if_neg q] at g; exact g) (fun c c1 hpc => by
            by_cases v : c = z
            · subst v
              rw [if_pos (by omega), mz]
              have := sb.2.2.2.2.2
              rw [r0, z64, Int64.mul_zero, Int64.add_zero, ← i3] at this
              exact ⟨b1, this.1, this.2⟩
            · rw [(nx1 c c1 v).2, (nx1 c c1 v).1]
              have g := hm c c1 hpc
              by_cases q : c < z
              · rw [if_pos (by omega)]; rw [if_pos q] at g; exact g
              · rw [if_neg (by omega)]; rw [if_neg q] at g; exact g)
          rw [rz, hz7] at a1
          refine ⟨E', Aba', Amo', Aco', T2, T3, ee', mm', qq', s, a1, a2, a3, by omega, by rw [hz7] at a5; exact a5, a6, a7, a8, fun j j1 j2 => by rw [a9 j j1 j2, io j (by omega)], a10, fun c c1 hpc => by have := a11 c c1 hpc; rw [io c (by omega)] at this; exact this, by rw [a12, hs1]⟩
        · have r1 : 1 ≤ r.toInt := by rw [le_i, toInt_0] at q; omega
          have q64 : ¬ r.toInt64 ≤ 0 := by rw [le64, up64]; have : (0 : Int64).toInt = 0 := rfl; omega
          rw [if_neg q, if_neg q64]
          have cr : r.toInt64.toInt32 = r := Int32.toInt32_toInt64 r
          rw [cr]
          have u1 : CLB Asz Anu (upd Aba (rk P z) (Aba (rk P z) + r)) Amo m' qq := by
            have := cl_upd hc (by omega) hpq (Aba (rk P z) + r)
            rw [h0] at this
            refine CLB_ext this (fun c c1 => ?_)
            by_cases v : c = z
            · subst v; rw [i2, updL_s]
            · rw [updL_n v, (nx1 c c1 v).1]
          have ht2 : TRB E Tma Tlc Ttc m' qq ee := by
            obtain ⟨w1, w2, w3, w4⟩ := ht
            exact ⟨w1, w2, by rw [i4 24 (by omega) (by omega)]; exact w3, w4⟩
          obtain ⟨Amo1, U2, U3, ee1, mm1, qq1, e1, e2, e3, e4, e5, e6, e7⟩ := enter_b (day := nI (d + 1)) (dn := d + 1) (k := nI 5) (cf := z) (cs := 0) u1 ht2 (by omega) ⟨rfl, hq.1, by omega⟩ (by omega) hpq (by omega) (Or.inl rfl) (by decide) (a := r) (by have := sb.2.1; omega) ⟨by decide, ⟨z, hnz.1, hnz.2, rfl⟩, fun e => absurd e (by decide), fun e => absurd e (by decide), fun e => absurd e (by decide)⟩
          have e1 : fX5_enter Asz Anu Amo Tma Tlc Ttc (nI (d + 1)) 5 (nI z) 0 r = _ := e1
          have e2 : fL_enter ee m' qq 5 (nI z) 0 r = _ := e2
          rw [hz7] at e1
          rw [X0_add hlt (by omega), bd1_s, X0_addCount hlt (by omega), bd1_s, lts, X0_numberAt hlt (by omega), bd1_s, g1.1, e1, bd4_s, e2, bd3_s, lts, nI_1, nI_1]
          have hP1 : pq qq1 = P := by rw [e5, h0]
          have eq1 : QB (d + 1) lim low hig thr qq1 := ⟨by rw [e7 0 (by omega) (by omega)]; exact hq.1, by rw [e7 1 (by omega) (by omega)]; exact hq.2.1, by rw [e7 2 (by omega) (by omega)]; exact hq.2.2.1, by rw [e7 3 (by omega) (by omega)]; exact hq.2.2.2.1, by rw [e7 4 (by omega) (by omega)]; exact hq.2.2.2.2⟩
          obtain ⟨E', Aba', Amo', Aco', T2, T3, ee', mm', qq', s, a1, a2, a3, a4, a5, a6, a7, a8, a9, a10, a11, a12⟩ := ih k' (z + 1) (E + 1) (upd Aba (rk P z) (Aba (rk P z) + r)) Amo1 (vp_updL Aco (rk P z) (Aco (rk P z) + -3650000 * r.toInt64)) (nI (E + 1)) U2 U3 (cre + r.toInt64) ee1 mm1 qq1 (zs + r.toInt64) hP1 (by omega) (by omega) (by omega) (by rw [rz]; omega) (by omega) eq1 e3 e4 (fun c c1 hpc => by
            rw [e6 _ (by omega)]
            by_cases v : c = z
            · subst v; rw [if_pos (by omega), updL_s, i3, hA]
            · have vn : rk P c ≠ rk P z := fun w => v (rk_inj hpc hp w)
              rw [(nx1 c c1 v).2, updL_n vn, upd_n vn]
              have g := hco c c1 hpc
              by_cases q : c < z
              · rw [if_pos (by omega)]; rw [if_pos q] at g; exact g
              · rw [if_neg (by omega)]; rw [if_neg q] at g; exact g) (fun c c1 hpc => by
            rw [e6 c (by omega), e6 (10 + c) (by omega)]
            by_cases v : c = z
            · subst v
              rw [if_pos (by omega), i2, up64, i3]
              have := sb.2.2.2.2.2
              exact ⟨⟨by omega, sb.2.2.2.1⟩, this.1, this.2⟩
            · rw [(nx1 c c1 v).2, (nx1 c c1 v).1]
              have g := hm c c1 hpc
              by_cases q : c < z
              · rw [if_pos (by omega)]; rw [if_pos q] at g; exact g
              · rw [if_neg (by omega)]; rw [if_neg q] at g; exact g)
          rw [rz, hz7] at a1
          have hs2 : sumC P mm1 7 = sumC P m' 7 := sumC_cong 7 (fun i hi => ⟨rfl, fun _ => e6 i (by omega)⟩)
          refine ⟨E', Aba', Amo', Aco', T2, T3, ee', mm', qq', r.toInt64 + s, by rw [← Int64.add_assoc]; exact a1, by rw [← Int64.add_assoc]; exact a2, a3, by omega, by rw [hz7] at a5; exact a5, a6, a7, a8, fun j j1 j2 => by rw [a9 j j1 j2, e6 j (by omega), i4 j (by omega) (by omega)], fun j j1 j2 => by rw [a10 j j1 j2, e7 j j1 j2], fun c c1 hpc => ?_, by rw [a12, hs2, hs1, Int64.add_assoc]⟩
          have := a11 c c1 hpc
          rw [e6 c (by omega)] at this
          by_cases v : c = z
          · subst v; omega
          · rw [(nx1 c c1 v).1] at this; exact this
end DY
