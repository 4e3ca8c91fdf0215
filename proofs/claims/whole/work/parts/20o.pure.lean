/-! the pure side, o: growth and interest -/
theorem mul64 {x y : Int64} (h1 : -9223372036854775808 ≤ x.toInt * y.toInt) (h2 : x.toInt * y.toInt < 9223372036854775808) : (x * y).toInt = x.toInt * y.toInt := by
  rw [Int64.toInt_mul]
  exact Int.bmod_eq_of_le (by omega) (by omega)
theorem add64 {x y : Int64} (h1 : -9223372036854775808 ≤ x.toInt + y.toInt) (h2 : x.toInt + y.toInt < 9223372036854775808) : (x + y).toInt = x.toInt + y.toInt := by
  rw [Int64.toInt_add]
  exact Int.bmod_eq_of_le (by omega) (by omega)
theorem sub64 {x y : Int64} (h1 : -9223372036854775808 ≤ x.toInt - y.toInt) (h2 : x.toInt - y.toInt < 9223372036854775808) : (x - y).toInt = x.toInt - y.toInt := by
  rw [Int64.toInt_sub]
  exact Int.bmod_eq_of_le (by omega) (by omega)
theorem up64 (x : Int32) : x.toInt64.toInt = x.toInt := Int32.toInt_toInt64 x
def growL (lim low hig b : Int32) : Int64 := low.toInt64 * (if lim < b then lim else b).toInt64 + hig.toInt64 * (b.toInt64 - (if lim < b then lim else b).toInt64)
theorem growth_i (lim low hig b : Int32) : fX5_growthPerDay lim low hig b = some (growL lim low hig b) := rfl
theorem growL_b {lim low hig b : Int32} (h1 : 0 ≤ lim.toInt) (h2 : 0 ≤ low.toInt ∧ low.toInt ≤ 2000) (h3 : 0 ≤ hig.toInt ∧ hig.toInt ≤ 2000) (h4 : 0 ≤ b.toInt ∧ b.toInt ≤ 1000000000) : 0 ≤ (growL lim low hig b).toInt ∧ (growL lim low hig b).toInt ≤ 2000000000000 := by
  obtain ⟨m, em⟩ : ∃ m, m = if lim < b then lim else b := ⟨_, rfl⟩
  have hm : 0 ≤ m.toInt ∧ m.toInt ≤ b.toInt := by
    rw [em]
    by_cases c : lim < b
    · rw [if_pos c]; rw [lt_i] at c; omega
    · rw [if_neg c]; omega
  have p1 : 0 ≤ low.toInt * m.toInt := Int.mul_nonneg h2.1 hm.1
  have p2 : low.toInt * m.toInt ≤ 2000 * m.toInt := Int.mul_le_mul_of_nonneg_right h2.2 hm.1
  have p3 : 0 ≤ hig.toInt * (b.toInt - m.toInt) := Int.mul_nonneg h3.1 (by omega)
  have p4 : hig.toInt * (b.toInt - m.toInt) ≤ 2000 * (b.toInt - m.toInt) := Int.mul_le_mul_of_nonneg_right h3.2 (by omega)
  have e0 : (b.toInt64 - m.toInt64).toInt = b.toInt - m.toInt := by rw [sub64 (by rw [up64, up64]; omega) (by rw [up64, up64]; omega), up64, up64]
  have e1 : (low.toInt64 * m.toInt64).toInt = low.toInt * m.toInt := by rw [mul64 (by rw [up64, up64]; omega) (by rw [up64, up64]; omega), up64, up64]
  have e2 : (hig.toInt64 * (b.toInt64 - m.toInt64)).toInt = hig.toInt * (b.toInt - m.toInt) := by rw [mul64 (by rw [up64, e0]; omega) (by rw [up64, e0]; omega), up64, e0]
  unfold growL
  rw [← em, add64 (by rw [e1, e2]; omega) (by rw [e1, e2]; omega), e1, e2]
  omega
/-- the interest that a credit day would give -/
def intL (b : Int32) (t : Int64) : Int64 := if (1000000000 - b).toInt64 < t / 3650000 then (1000000000 - b).toInt64 else t / 3650000
theorem div64 {t : Int64} (h : 0 ≤ t.toInt) : (t / 3650000).toInt = t.toInt / 3650000 := by
  have ht := t.toInt_lt
  have e : (3650000 : Int64).toInt = 3650000 := rfl
  rw [Int64.toInt_div, e, Int.tdiv_eq_ediv_of_nonneg h]
  exact Int.bmod_eq_of_le (by omega) (by omega)
theorem lt64 {x y : Int64} : x < y ↔ x.toInt < y.toInt := Int64.lt_iff_toInt_lt
theorem le64 {x y : Int64} : x ≤ y ↔ x.toInt ≤ y.toInt := Int64.le_iff_toInt_le
theorem room_e {b : Int32} (h : 0 ≤ b.toInt ∧ b.toInt ≤ 1000000000) : (1000000000 - b).toInt64.toInt = 1000000000 - b.toInt := by
  rw [up64, sub_toInt (by rw [toInt_e9]; omega) (by rw [toInt_e9]; omega), toInt_e9]
theorem intL_b {b : Int32} {t : Int64} (h : 0 ≤ b.toInt ∧ b.toInt ≤ 1000000000) (ht : 0 ≤ t.toInt) : 0 ≤ (intL b t).toInt ∧ (intL b t).toInt ≤ 1000000000 - b.toInt ∧ 3650000 * (intL b t).toInt ≤ t.toInt := by
  unfold intL
  have e1 := room_e h
  have e2 := div64 ht
  by_cases c : (1000000000 - b).toInt64 < t / 3650000
  · rw [if_pos c, e1]; rw [lt64, e1, e2] at c; omega
  · rw [if_neg c, e2]; rw [lt64, e1, e2] at c; omega
theorem dn64 {v : Int64} (h1 : -2147483648 ≤ v.toInt) (h2 : v.toInt < 2147483648) : v.toInt32.toInt = v.toInt ∧ v.toInt32.toInt64 = v := by
  have e : v.toInt32.toInt = v.toInt := by
    rw [Int64.toInt_toInt32]
    exact Int.bmod_eq_of_le (by omega) (by omega)
  exact ⟨e, Int64.toInt_inj.mp (by rw [up64, e])⟩
/-- what the class would credit -/
def crI (thr b : Int32) (t : Int64) : Int32 := if intL b t < thr.toInt64 then 0 else (intL b t).toInt32
theorem interest_i (thr b : Int32) (t : Int64) : fX5_interestToCredit thr b t = some (crI thr b t) := by
  unfold fX5_interestToCredit
  rw [lts]
  change (if intL b t < thr.toInt64 then some 0 else some (intL b t).toInt32) = some (crI thr b t)
  unfold crI
  by_cases c : intL b t < thr.toInt64
  · rw [if_pos c, if_pos c]
  · rw [if_neg c, if_neg c]
theorem crI_b {thr b : Int32} {t : Int64} (h : 0 ≤ b.toInt ∧ b.toInt ≤ 1000000000) (ht : 0 ≤ t.toInt) : 0 ≤ (crI thr b t).toInt ∧ (crI thr b t).toInt ≤ 1000000000 - b.toInt ∧ 3650000 * (crI thr b t).toInt ≤ t.toInt := by
  have q := intL_b h ht
  unfold crI
  by_cases c : intL b t < thr.toInt64
  · rw [if_pos c, toInt_0]; omega
  · rw [if_neg c, (dn64 (by omega) (by omega)).1]; exact q
theorem z64 : (0 : Int32).toInt64 = 0 := rfl
theorem credit_v {b thr : Int32} {T v : Int64} (h : 0 ≤ v.toInt ∧ v.toInt ≤ 1000000000) : (if v = 0 then some ((0 : Int32), b, T) else if thr.toInt64 ≤ v then some (v.toInt32, b + v.toInt32, T - 3650000 * v) else some (0, b, T)) = some ((if v < thr.toInt64 then 0 else v.toInt32), b + (if v < thr.toInt64 then 0 else v.toInt32), T + -3650000 * (if v < thr.toInt64 then (0 : Int32) else v.toInt32).toInt64) := by
  have e0 : b + 0 = b := Int32.add_zero b
  have e1 : T + -3650000 * (0 : Int32).toInt64 = T := by rw [z64, Int64.mul_zero, Int64.add_zero]
  by_cases c : v < thr.toInt64
  · rw [if_pos c, e0, e1]
    by_cases d : v = 0
    · rw [if_pos d]
    · rw [if_neg d, if_neg (fun z => by rw [lt64] at c; rw [le64] at z; omega)]
  · rw [if_neg c]
    by_cases d : v = 0
    · rw [if_pos d, d, show (0 : Int64).toInt32 = 0 from rfl, e0, e1]
    · rw [if_neg d, if_pos (by rw [lt64] at c; rw [le64]; omega), (dn64 (by omega) (by omega)).2, Int64.sub_eq_add_neg, Int64.neg_mul]
/-- the reference's end of a day -/
theorem dayEnds_i {st : Nat → Int32} {lim low hig thr : Int32} (s1 : st 1 = lim) (s2 : st 2 = low) (s3 : st 3 = hig) (s4 : st 4 = thr) {b : Int32} {t : Int64} (hb : 0 ≤ b.toInt ∧ b.toInt ≤ 1000000000) (h0 : 0 ≤ (t + growL lim low hig b).toInt) (p : Int32) :
    fX8_dayEnds st b t p = some (if p - p / 30 * 30 = 0 then (crI thr b (t + growL lim low hig b), b + crI thr b (t + growL lim low hig b), t + growL lim low hig b + -3650000 * (crI thr b (t + growL lim low hig b)).toInt64) else (0, b, t + growL lim low hig b)) := by
  have k1 : ∀ {β : Type} (k : Option β), ckI 1 336 k = k := fun k => ckI_ok (i := 1) (by omega) (by omega)
  have k2 : ∀ {β : Type} (k : Option β), ckI 2 336 k = k := fun k => ckI_ok (i := 2) (by omega) (by omega)
  have k3 : ∀ {β : Type} (k : Option β), ckI 3 336 k = k := fun k => ckI_ok (i := 3) (by omega) (by omega)
  have k4 : ∀ {β : Type} (k : Option β), ckI 4 336 k = k := fun k => ckI_ok (i := 4) (by omega) (by omega)
  obtain ⟨T, eT⟩ : ∃ T, T = t + growL lim low hig b := ⟨_, rfl⟩
  have re := room_e hb
  rw [← eT] at h0
  have rq := div64 h0
  have tail : (lt_ ((1000000000 - b).toInt64) fun (x4_9 : Int64) =>
      if x4_9 ≤ (T / 3650000) then
        if x4_9 = 0 then
          some ((0 : Int32), b, T)
        else
          if thr.toInt64 ≤ x4_9 then
            some (x4_9.toInt32, b + x4_9.toInt32, T - (3650000 * x4_9))
          else
            some (0, b, T)
      else
        lt_ (T / 3650000) fun (x6_16 : Int64) =>
        if x6_16 = 0 then
          some (0, b, T)
        else
          if thr.toInt64 ≤ x6_16 then
            some (x6_16.toInt32, b + x6_16.toInt32, T - (3650000 * x6_16))
          else
            some (0, b, T)) = some (crI thr b T, b + crI thr b T, T + -3650000 * (crI thr b T).toInt64) := by
    rw [lts]
    by_cases c : (1000000000 - b).toInt64 ≤ T / 3650000
    · have e : intL b T = (1000000000 - b).toInt64 := by
        unfold intL
        by_cases d : (1000000000 - b).toInt64 < T / 3650000
        · rw [if_pos d]
        · rw [if_neg d]
          refine Int64.toInt_inj.mp ?_
          rw [lt64] at d; rw [le64] at c; omega
      rw [if_pos c]
      unfold crI
      rw [e]
      exact credit_v (by omega)
    · have e : intL b T = T / 3650000 := by
        unfold intL
        rw [if_neg (fun d => c (by rw [le64]; rw [lt64] at d; omega))]
      rw [if_neg c, lts]
      unfold crI
      rw [e]
      exact credit_v (by rw [le64] at c; omega)
  unfold fX8_dayEnds
  simp only [k1, k2, k3, k4, show (1 : Int32).toNatClampNeg = 1 from rfl, show (2 : Int32).toNatClampNeg = 2 from rfl, show (3 : Int32).toNatClampNeg = 3 from rfl, show (4 : Int32).toNatClampNeg = 4 from rfl, s1, s2, s3, s4]
  have g1 : ∀ x2 : Int32, (if lim < b then lim else b) = x2 → t + (low.toInt64 * x2.toInt64 + hig.toInt64 * (b.toInt64 - x2.toInt64)) = T := by
    intro x2 e
    rw [eT]; unfold growL; rw [e]
  rw [← eT]
  by_cases c : lim ≤ b
  · rw [if_pos c, lts, lts, g1 lim (by
      by_cases d : lim < b
      · rw [if_pos d]
      · rw [if_neg d]
        refine Int32.toInt_inj.mp ?_
        rw [lt_i] at d; rw [le_i] at c; omega)]
    by_cases q : p - p / 30 * 30 = 0
    · rw [if_pos q, if_pos q]; exact tail
    · rw [if_neg q, if_neg q]
  · rw [if_neg c, lts, g1 b (by rw [if_neg (fun d => c (by rw [le_i]; rw [lt_i] at d; omega))])]
    by_cases q : p - p / 30 * 30 = 0
    · rw [if_pos q, if_pos q]; exact tail
    · rw [if_neg q, if_neg q]
