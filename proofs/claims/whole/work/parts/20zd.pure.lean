/-! the pure side, zd: characters -/
theorem nar_c : ∀ k : Fin 127, narrow .char (.int (nI k.val)) = .int (nI k.val) := by decide
theorem at_i {T i : Nat} {ch tx : Nat → Int32} (hT : T ≤ 80) (hc : ∀ i, i < T → ch i = tx i ∧ 33 ≤ (tx i).toInt ∧ (tx i).toInt ≤ 126) (hi : i < T) : fX2_at (nI T) ch (nI i) = some (tx i) ∧ fX8_character tx (nI T) (nI i) = some (tx i) := by
  obtain ⟨h1, h2, h3⟩ := hc i hi
  obtain ⟨k, ek, ek2, ek3⟩ := nneg_nI (x := tx i) (by omega)
  have n := nar_c ⟨k, by omega⟩
  have t80 : ¬ (80 : Int32) ≤ nI i := by rw [le_i, nI_toInt (by omega), show (80 : Int32).toInt = 80 from rfl]; omega
  refine ⟨?_, ?_⟩
  · unfold fX2_at
    rw [if_neg (nI_nl (by omega)), if_neg (nI_ge (by omega) (by omega)), if_neg t80, ckI_ok (by omega) (by omega), nI_clamp (by omega), h1, ek]
    exact if_pos n
  · unfold fX8_character
    rw [if_neg (nI_ge (by omega) (by omega)), ckI_ok (by omega) (by omega), nI_clamp (by omega)]
