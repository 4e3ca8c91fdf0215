/-! the pure side, ze: a number in the text -/
theorem dig_dec (x : Int32) : ((48 ≤ x.toInt ∧ x.toInt ≤ 57) ∧ fX2_isDigit x = some 1 ∧ fX8_within x 48 57 = some 1) ∨ (¬ (48 ≤ x.toInt ∧ x.toInt ≤ 57) ∧ fX2_isDigit x = some 0 ∧ fX8_within x 48 57 = some 0) := by
  have e1 : (48 : Int32).toInt = 48 := rfl
  have e9 : (57 : Int32).toInt = 57 := rfl
  unfold fX2_isDigit
  simp only [within_i, lt_i, e1, e9]
  by_cases c : 48 ≤ x.toInt ∧ x.toInt ≤ 57
  · exact Or.inl ⟨c, by rw [if_neg (by omega), if_neg (by omega)], by rw [if_pos c]⟩
  · refine Or.inr ⟨c, ?_, by rw [if_neg c]⟩
    by_cases d : x.toInt < 48
    · rw [if_pos d]
    · rw [if_neg d, if_pos (by omega)]
theorem chr_end {T : Nat} (hT : T ≤ 80) (tx : Nat → Int32) : fX8_character tx (nI T) (nI T) = some (-1) := by
  unfold fX8_character
  rw [if_pos (nI_le (by omega) (by omega))]
theorem at_end {T : Nat} (hT : T ≤ 80) (ch : Nat → Int32) : fX2_at (nI T) ch (nI T) = some 0 := by
  unfold fX2_at
  rw [if_neg (nI_nl (by omega)), if_pos (nI_le (by omega) (by omega))]
theorem numr_e (x y : Int32) : x * 10 + (y - 48) = (10 * x) + y - 48 := by rw [Int32.mul_comm x 10, Int32.sub_eq_add_neg, Int32.sub_eq_add_neg, Int32.add_assoc]
theorem num_i {T : Nat} {ch tx : Nat → Int32} (hT : T ≤ 80) (hc : ∀ i, i < T → ch i = tx i ∧ 33 ≤ (tx i).toInt ∧ (tx i).toInt ≤ 126) : ∀ (m z i : Nat) (nu : Int32), z + m = 6 → i ≤ T → ∃ (d : Nat) (v : Int32), z + d ≤ 6 ∧ i + d ≤ T ∧ (z + d = 6 ∨ i + d = T ∨ ¬ (48 ≤ (tx (i + d)).toInt ∧ (tx (i + d)).toInt ≤ 57)) ∧ (∀ km, m < km → fX8_readsNumber_L7 tx (nI T) km (nI i) nu (nI z) = some (nI (i + d), v, nI (z + d))) ∧ (∀ (n : Nat) (z1 z2 : Int32), ¬ z1 = 0 → fX2_firstError_L9 (nI T) ch (n + d) z1 z2 (nI z) (nI i) = fX2_firstError_L9 (nI T) ch n z1 z2 (nI (z + d)) (nI (i + d))) ∧ (∀ km, m < km → fX2_readNumber_L14 (nI T) ch km (nI i) nu (nI z) = some (nI (i + d), v)) := by
  intro m
  induction m with
  | zero =>
    intro z i nu hz hi
    have z6 : (6 : Int32) ≤ nI z := by rw [le_i, nI_toInt (by omega), show (6 : Int32).toInt = 6 from rfl]; omega
    refine ⟨0, nu, by omega, by omega, Or.inl (by omega), fun km hk => ?_, fun n z1 z2 _ => rfl, fun km hk => ?_⟩
    · obtain ⟨y, ey⟩ : ∃ y, km = y + 1 := ⟨km - 1, by omega⟩
      subst ey
      rw [fX8_readsNumber_L7, if_pos z6]
      rfl
    · obtain ⟨y, ey⟩ : ∃ y, km = y + 1 := ⟨km - 1, by omega⟩
      subst ey
      rw [fX2_readNumber_L14, if_pos z6]
      rfl
  | succ m ih =>
    intro z i nu hz hi
    have z6 : ¬ (6 : Int32) ≤ nI z := by rw [le_i, nI_toInt (by omega), show (6 : Int32).toInt = 6 from rfl]; omega
    by_cases e : i = T
    · subst e
      refine ⟨0, nu, by omega, by omega, Or.inr (Or.inl (by omega)), fun km hk => ?_, fun n z1 z2 _ => rfl, fun km hk => ?_⟩
      · obtain ⟨y, ey⟩ : ∃ y, km = y + 1 := ⟨km - 1, by omega⟩
        subst ey
        rw [fX8_readsNumber_L7, if_neg z6, chr_end hT, bd1_s, within_i, bd1_s, if_pos (by decide)]
        rfl
      · obtain ⟨y, ey⟩ : ∃ y, km = y + 1 := ⟨km - 1, by omega⟩
        subst ey
        rw [fX2_readNumber_L14, if_neg z6, at_end hT, bd1_s, show fX2_isDigit 0 = some 0 from rfl, bd1_s, if_pos rfl]
        rfl
    · obtain ⟨a1, a2⟩ := at_i hT hc (show i < T by omega)
      rcases dig_dec (tx i) with ⟨b1, b2, b3⟩ | ⟨b1, b2, b3⟩
      · obtain ⟨d, v, c1, c2, c3, c4, c5, c6⟩ := ih (z + 1) (i + 1) ((10 * nu) + tx i - 48) (by omega) (by omega)
        refine ⟨d + 1, v, by omega, by omega, by rw [show z + (d + 1) = z + 1 + d by omega, show i + (d + 1) = i + 1 + d by omega]; exact c3, fun km hk => ?_, fun n z1 z2 h1 => ?_, fun km hk => ?_⟩
        · obtain ⟨y, ey⟩ : ∃ y, km = y + 1 := ⟨km - 1, by omega⟩
          subst ey
          rw [fX8_readsNumber_L7, if_neg z6, a2, bd1_s, b3, bd1_s, if_neg n10, bd1_s, lts, lts, nI_1, nI_1, c4 y (by omega), show z + (d + 1) = z + 1 + d by omega, show i + (d + 1) = i + 1 + d by omega]
        · rw [show n + (d + 1) = n + d + 1 by omega, fX2_firstError_L9, if_neg (nI_ge (by omega) (by omega)), a1, bd1_s, if_neg h1, b2, bd1_s, if_neg n10, if_neg (fun q => by have := nI_inj (a := z) (b := 6) (by omega) (by omega) q; omega), nI_1, nI_1, c5 n z1 z2 h1, show z + (d + 1) = z + 1 + d by omega, show i + (d + 1) = i + 1 + d by omega]
        · obtain ⟨y, ey⟩ : ∃ y, km = y + 1 := ⟨km - 1, by omega⟩
          subst ey
          rw [fX2_readNumber_L14, if_neg z6, a1, bd1_s, b2, bd1_s, if_neg n10, bd1_s, lts, lts, nI_1, nI_1, numr_e, c6 y (by omega), show i + (d + 1) = i + 1 + d by omega]
      · refine ⟨0, nu, by omega, by omega, Or.inr (Or.inr (by rw [Nat.add_zero]; exact b1)), fun km hk => ?_, fun n z1 z2 _ => rfl, fun km hk => ?_⟩
        · obtain ⟨y, ey⟩ : ∃ y, km = y + 1 := ⟨km - 1, by omega⟩
          subst ey
          rw [fX8_readsNumber_L7, if_neg z6, a2, bd1_s, b3, bd1_s, if_pos rfl]
          rfl
        · obtain ⟨y, ey⟩ : ∃ y, km = y + 1 := ⟨km - 1, by omega⟩
          subst ey
          rw [fX2_readNumber_L14, if_neg z6, a1, bd1_s, b2, bd1_s, if_pos rfl]
          rfl
