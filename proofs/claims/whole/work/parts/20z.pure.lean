/-! the pure side, z: the digest, rows and sums -/
theorem dg_rowsH {R : Nat} {sz la : Int32} {ce st : Nat → Int32} (hr : RWr R sz la ce st 6 8 48) : ∀ (k km i : Nat) (a : Int64), i ≤ R → R - i < k → 4 * (R - i) < km → ∃ r, fX7_hashOfRows_L5 sz ce k a (nI i) = some r ∧ fX8_digest_L97 st km a (nI (4 * i)) = some r := by
  obtain ⟨⟨hz, h6, hR, -⟩, hr⟩ := hr
  have one : ∀ (i j km : Nat) (a : Int64), i < R → j < 4 → fX8_digest_L97 st (km + 1) a (nI (4 * i + j)) = fX8_digest_L97 st km (31 * a + (ce (i * 4 + j)).toInt64) (nI (4 * i + j + 1)) := by
    intro i j km a hi hj
    have e4 : 4 * nI R = nI (4 * R) := by rw [lit_4, pk_mul]
    have eb : 48 + nI (4 * i + j) = nI (48 + (4 * i + j)) := by rw [lit_48, nI_add]
    rw [fX8_digest_L97, show ckI 6 336 _ = _ from ckI_ok (i := 6) (by omega) (by omega), show (6 : Int32).toNatClampNeg = 6 from rfl, h6, e4, if_neg (nI_ge (by omega) (by omega)), eb, ckI_ok (by omega) (by omega), lts, nI_clamp (by omega), nI_1, hr (i * 4 + j) (by omega), show 48 + (i * 4 + j) = 48 + (4 * i + j) by omega]
  intro k
  induction k with
  | zero => intro km i a h1 h2; omega
  | succ k ih =>
    intro km i a h1 h2 h3
    rw [fX7_hashOfRows_L5]
    by_cases e : i = R
    · subst e
      obtain ⟨y, ey⟩ : ∃ y, km = y + 1 := ⟨km - 1, by omega⟩
      subst ey
      have e4 : 4 * nI i = nI (4 * i) := by rw [lit_4, pk_mul]
      rw [hz, if_pos (nI_le (by omega) (by omega)), fX8_digest_L97, show ckI 6 336 _ = _ from ckI_ok (i := 6) (by omega) (by omega), show (6 : Int32).toNatClampNeg = 6 from rfl, h6, e4, if_pos (nI_le (by omega) (by omega))]
      exact ⟨a, rfl, rfl⟩
    · have hi : i < R := by omega
      obtain ⟨y, ey⟩ : ∃ y, km = y + 4 := ⟨km - 4, by omega⟩
      subst ey
      have gt : ∀ j, j < 4 → fX4_get sz ce (nI i) (nI j) = some (ce (i * 4 + j)) := fun j hj => by rw [hz]; exact X4_get hi hR hj ce
      have x : fX7_hashOfRows_L17 sz ce (nI i) 2147483648 a 0 = some (31 * (31 * (31 * (31 * a + (ce (i * 4 + 0)).toInt64) + (ce (i * 4 + 1)).toInt64) + (ce (i * 4 + 2)).toInt64) + (ce (i * 4 + 3)).toInt64) := by
        have st1 : ∀ (n j : Nat) (b : Int64), j < 4 → fX7_hashOfRows_L17 sz ce (nI i) (n + 1) b (nI j) = fX7_hashOfRows_L17 sz ce (nI i) n (31 * b + (ce (i * 4 + j)).toInt64) (nI (j + 1)) := fun n j b hj => by
          rw [fX7_hashOfRows_L17, if_neg (by rw [le_i, nI_toInt (by omega), show (4 : Int32).toInt = 4 from rfl]; omega), gt j hj, bd1_s, lts, nI_1]
        rw [← nI_0, show (2147483648 : Nat) = 2147483643 + 1 + 1 + 1 + 1 + 1 from rfl, st1 _ 0 _ (by omega), st1 _ (0 + 1) _ (by omega), st1 _ (0 + 1 + 1) _ (by omega), st1 _ (0 + 1 + 1 + 1) _ (by omega), fX7_hashOfRows_L17, if_pos (by decide)]
      have m : fX8_digest_L97 st (y + 4) a (nI (4 * i)) = fX8_digest_L97 st y (31 * (31 * (31 * (31 * a + (ce (i * 4 + 0)).toInt64) + (ce (i * 4 + 1)).toInt64) + (ce (i * 4 + 2)).toInt64) + (ce (i * 4 + 3)).toInt64) (nI (4 * (i + 1))) := by
        exact (one i 0 (y + 3) a hi (by omega)).trans ((one i 1 (y + 2) _ hi (by omega)).trans ((one i 2 (y + 1) _ hi (by omega)).trans (one i 3 y _ hi (by omega))))
      rw [hz, if_neg (nI_ge (by omega) (by omega)), ← hz, x, bd1_s, m, nI_1]
      exact ih y (i + 1) _ (by omega) (by omega) (by omega)
theorem dg_rowsB {R : Nat} {sz la : Int32} {ce st : Nat → Int32} (hr : RWr R sz la ce st 7 9 108) : ∀ (k km i : Nat) (a : Int64), i ≤ R → R - i < k → 4 * (R - i) < km → ∃ r, fX7_hashOfRows_L5 sz ce k a (nI i) = some r ∧ fX8_digest_L135 st km a (nI (4 * i)) = some r := by
  obtain ⟨⟨hz, h6, hR, -⟩, hr⟩ := hr
  have one : ∀ (i j km : Nat) (a : Int64), i < R → j < 4 → fX8_digest_L135 st (km + 1) a (nI (4 * i + j)) = fX8_digest_L135 st km (31 * a + (ce (i * 4 + j)).toInt64) (nI (4 * i + j + 1)) := by
    intro i j km a hi hj
    have e4 : 4 * nI R = nI (4 * R) := by rw [lit_4, pk_mul]
    have eb : 108 + nI (4 * i + j) = nI (108 + (4 * i + j)) := by rw [lit_108, nI_add]
    rw [fX8_digest_L135, show ckI 7 336 _ = _ from ckI_ok (i := 7) (by omega) (by omega), show (7 : Int32).toNatClampNeg = 7 from rfl, h6, e4, if_neg (nI_ge (by omega) (by omega)), eb, ckI_ok (by omega) (by omega), lts, nI_clamp (by omega), nI_1, hr (i * 4 + j) (by omega), show 108 + (i * 4 + j) = 108 + (4 * i + j) by omega]
  intro k
  induction k with
  | zero => intro km i a h1 h2; omega
  | succ k ih =>
    intro km i a h1 h2 h3
    rw [fX7_hashOfRows_L5]
    by_cases e : i = R
    · subst e
      obtain ⟨y, ey⟩ : ∃ y, km = y + 1 := ⟨km - 1, by omega⟩
      subst ey
      have e4 : 4 * nI i = nI (4 * i) := by rw [lit_4, pk_mul]
      rw [hz, if_pos (nI_le (by omega) (by omega)), fX8_digest_L135, show ckI 7 336 _ = _ from ckI_ok (i := 7) (by omega) (by omega), show (7 : Int32).toNatClampNeg = 7 from rfl, h6, e4, if_pos (nI_le (by omega) (by omega))]
      exact ⟨a, rfl, rfl⟩
    · have hi : i < R := by omega
      obtain ⟨y, ey⟩ : ∃ y, km = y + 4 := ⟨km - 4, by omega⟩
      subst ey
      have gt : ∀ j, j < 4 → fX4_get sz ce (nI i) (nI j) = some (ce (i * 4 + j)) := fun j hj => by rw [hz]; exact X4_get hi hR hj ce
      have x : fX7_hashOfRows_L17 sz ce (nI i) 2147483648 a 0 = some (31 * (31 * (31 * (31 * a + (ce (i * 4 + 0)).toInt64) + (ce (i * 4 + 1)).toInt64) + (ce (i * 4 + 2)).toInt64) + (ce (i * 4 + 3)).toInt64) := by
        have st1 : ∀ (n j : Nat) (b : Int64), j < 4 → fX7_hashOfRows_L17 sz ce (nI i) (n + 1) b (nI j) = fX7_hashOfRows_L17 sz ce (nI i) n (31 * b + (ce (i * 4 + j)).toInt64) (nI (j + 1)) := fun n j b hj => by
          rw [fX7_hashOfRows_L17, if_neg (by rw [le_i, nI_toInt (by omega), show (4 : Int32).toInt = 4 from rfl]; omega), gt j hj, bd1_s, lts, nI_1]
        rw [← nI_0, show (2147483648 : Nat) = 2147483643 + 1 + 1 + 1 + 1 + 1 from rfl, st1 _ 0 _ (by omega), st1 _ (0 + 1) _ (by omega), st1 _ (0 + 1 + 1) _ (by omega), st1 _ (0 + 1 + 1 + 1) _ (by omega), fX7_hashOfRows_L17, if_pos (by decide)]
      have m : fX8_digest_L135 st (y + 4) a (nI (4 * i)) = fX8_digest_L135 st y (31 * (31 * (31 * (31 * a + (ce (i * 4 + 0)).toInt64) + (ce (i * 4 + 1)).toInt64) + (ce (i * 4 + 2)).toInt64) + (ce (i * 4 + 3)).toInt64) (nI (4 * (i + 1))) := by
        exact (one i 0 (y + 3) a hi (by omega)).trans ((one i 1 (y + 2) _ hi (by omega)).trans ((one i 2 (y + 1) _ hi (by omega)).trans (one i 3 y _ hi (by omega))))
      rw [hz, if_neg (nI_ge (by omega) (by omega)), ← hz, x, bd1_s, m, nI_1]
      exact ih y (i + 1) _ (by omega) (by omega) (by omega)
