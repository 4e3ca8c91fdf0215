/-! an entry on both sides; the saved states -/
theorem rem10 {a : Nat} (ha : a < 2 ^ 31) : nI a - nI a / 10 * 10 = nI (a % 10) := by
  refine Int32.toInt_inj.mp ?_
  have e10 : (10 : Int32).toInt = 10 := rfl
  have hd : (nI a / 10).toInt = ((a / 10 : Nat) : Int) := by
    rw [Int32.toInt_div_of_ne_right _ _ (by decide), nI_toInt ha, e10]
    exact Int.tdiv_eq_ediv_of_nonneg (by omega)
  have hm : (nI a / 10 * 10).toInt = ((a / 10 * 10 : Nat) : Int) := by
    rw [Int32.toInt_mul, hd, e10]
    have : ((a / 10 : Nat) : Int) * 10 = ((a / 10 * 10 : Nat) : Int) := by push_cast; rfl
    rw [this]
    exact Int.bmod_eq_of_le (by omega) (by omega)
  rw [sub_toInt (by rw [hm, nI_toInt ha]; omega) (by rw [hm, nI_toInt ha]; omega), hm, nI_toInt ha, nI_toInt (by omega)]
  omega
def lck (lc : Int64) (d k f s a : Int32) : Int64 := ((((((lc * 1009) + (d.toInt64 * 31)) + (k.toInt64 * 17)) + (f.toInt64 * 101)) + (s.toInt64 * 103)) + a.toInt64) - ((((((lc * 1009) + (d.toInt64 * 31)) + (k.toInt64 * 17)) + (f.toInt64 * 101)) + (s.toInt64 * 103)) + a.toInt64) / 1000003 * 1000003
theorem chk_lck (lc d k f s a : Int32) : chk lc d k f s a = (lck lc.toInt64 d k f s a).toInt32 := rfl
theorem rem_1000003 {z : Int64} (h : 0 ≤ z.toInt) : (z - z / 1000003 * 1000003).toInt = z.toInt % 1000003 := by
  have eK : (1000003 : Int64).toInt = 1000003 := rfl
  have hl := z.toInt_lt
  have hd : (z / 1000003).toInt = z.toInt / 1000003 := by
    rw [Int64.toInt_div_of_ne_right _ _ (by decide), eK]
    exact Int.tdiv_eq_ediv_of_nonneg h
  have hm : (z / 1000003 * 1000003).toInt = z.toInt / 1000003 * 1000003 := by
    rw [mul64 (by rw [hd, eK]; omega) (by rw [hd, eK]; omega), hd, eK]
  rw [sub64 (by rw [hm]; omega) (by rw [hm]; omega), hm]
  omega
theorem lck_b {lc d k f s a : Int32} (h1 : 0 ≤ lc.toInt ∧ lc.toInt ≤ 1000002) (h2 : 0 ≤ d.toInt ∧ d.toInt ≤ 9999) (h3 : 0 ≤ k.toInt ∧ k.toInt ≤ 6) (h4 : 0 ≤ f.toInt ∧ f.toInt ≤ 6) (h5 : 0 ≤ s.toInt ∧ s.toInt ≤ 6) (h6 : 0 ≤ a.toInt ∧ a.toInt ≤ 1000000000) :
    (chk lc d k f s a).toInt64 = lck lc.toInt64 d k f s a ∧ 0 ≤ (chk lc d k f s a).toInt ∧ (chk lc d k f s a).toInt ≤ 1000002 := by
  have c1 : (1009 : Int64).toInt = 1009 := rfl
  have c2 : (31 : Int64).toInt = 31 := rfl
  have c3 : (17 : Int64).toInt = 17 := rfl
  have c4 : (101 : Int64).toInt = 101 := rfl
  have c5 : (103 : Int64).toInt = 103 := rfl
  have m1 : (lc.toInt64 * 1009).toInt = lc.toInt * 1009 := by rw [mul64 (by rw [up64, c1]; omega) (by rw [up64, c1]; omega), up64, c1]
  have m2 : (d.toInt64 * 31).toInt = d.toInt * 31 := by rw [mul64 (by rw [up64, c2]; omega) (by rw [up64, c2]; omega), up64, c2]
  have m3 : (k.toInt64 * 17).toInt = k.toInt * 17 := by rw [mul64 (by rw [up64, c3]; omega) (by rw [up64, c3]; omega), up64, c3]
  have m4 : (f.toInt64 * 101).toInt = f.toInt * 101 := by rw [mul64 (by rw [up64, c4]; omega) (by rw [up64, c4]; omega), up64, c4]
  have m5 : (s.toInt64 * 103).toInt = s.toInt * 103 := by rw [mul64 (by rw [up64, c5]; omega) (by rw [up64, c5]; omega), up64, c5]
  have a1 : (lc.toInt64 * 1009 + d.toInt64 * 31).toInt = lc.toInt * 1009 + d.toInt * 31 := by rw [add64 (by omega) (by omega), m1, m2]
  have a2 : (lc.toInt64 * 1009 + d.toInt64 * 31 + k.toInt64 * 17).toInt = lc.toInt * 1009 + d.toInt * 31 + k.toInt * 17 := by rw [add64 (by omega) (by omega), a1, m3]
  have a3 : (lc.toInt64 * 1009 + d.toInt64 * 31 + k.toInt64 * 17 + f.toInt64 * 101).toInt = lc.toInt * 1009 + d.toInt * 31 + k.toInt * 17 + f.toInt * 101 := by rw [add64 (by omega) (by omega), a2, m4]
  have a4 : (lc.toInt64 * 1009 + d.toInt64 * 31 + k.toInt64 * 17 + f.toInt64 * 101 + s.toInt64 * 103).toInt = lc.toInt * 1009 + d.toInt * 31 + k.toInt * 17 + f.toInt * 101 + s.toInt * 103 := by rw [add64 (by omega) (by omega), a3, m5]
  have a5 : (lc.toInt64 * 1009 + d.toInt64 * 31 + k.toInt64 * 17 + f.toInt64 * 101 + s.toInt64 * 103 + a.toInt64).toInt = lc.toInt * 1009 + d.toInt * 31 + k.toInt * 17 + f.toInt * 101 + s.toInt * 103 + a.toInt := by rw [add64 (by rw [up64]; omega) (by rw [up64]; omega), a4, up64]
  have hr := rem_1000003 (z := lc.toInt64 * 1009 + d.toInt64 * 31 + k.toInt64 * 17 + f.toInt64 * 101 + s.toInt64 * 103 + a.toInt64) (by rw [a5]; omega)
  have hb : (lck lc.toInt64 d k f s a).toInt = (lc.toInt64 * 1009 + d.toInt64 * 31 + k.toInt64 * 17 + f.toInt64 * 101 + s.toInt64 * 103 + a.toInt64).toInt % 1000003 := hr
  have g := dn64 (v := lck lc.toInt64 d k f s a) (by rw [hb]; omega) (by rw [hb]; omega)
  rw [chk_lck]
  exact ⟨g.2, by rw [g.1, hb]; omega, by rw [g.1, hb]; omega⟩
