/-! the pure side, b: the reference's small methods -/
theorem M_part {c k : Nat} (h : 12 + 3 * c + k < 336) (st : Nat → Int32) : fX8_part st (nI c) (nI k) = some (st (12 + 3 * c + k)) := by
  simp (disch := omega) only [fX8_part, lit_0, lit_1, lit_2, lit_3, lit_4, lit_5, lit_6, lit_7, lit_8, lit_9, lit_10, lit_11, lit_12, lit_13, lit_14, lit_15, lit_16, lit_17, lit_18, lit_19, lit_20, lit_21, lit_22, lit_23, lit_24, lit_30, lit_48, lit_57, lit_60, lit_80, lit_96, lit_108, lit_126, lit_168, lit_255, lit_336, lit_400, lts, bd0_s, bd1_s, bd2_s, bd3_s, bd4_s, bd5_s, bd6_s, bd7_s, nI_add, pk_mul, nI_sub, nI_clamp, nI_leI, nI_ltI, nI_eq, ckI_ok, if_pos, if_neg, Nat.not_lt_zero, if_false, if_true]
theorem M_setPart {c k : Nat} (h : 12 + 3 * c + k < 336) (st : Nat → Int32) (v : Int32) : fX8_setPart st (nI c) (nI k) v = some (upd st (12 + 3 * c + k) v) := by
  simp (disch := omega) only [fX8_setPart, lit_0, lit_1, lit_2, lit_3, lit_4, lit_5, lit_6, lit_7, lit_8, lit_9, lit_10, lit_11, lit_12, lit_13, lit_14, lit_15, lit_16, lit_17, lit_18, lit_19, lit_20, lit_21, lit_22, lit_23, lit_24, lit_30, lit_48, lit_57, lit_60, lit_80, lit_96, lit_108, lit_126, lit_168, lit_255, lit_336, lit_400, lts, bd0_s, bd1_s, bd2_s, bd3_s, bd4_s, bd5_s, bd6_s, bd7_s, nI_add, pk_mul, nI_sub, nI_clamp, nI_leI, nI_ltI, nI_eq, ckI_ok, if_pos, if_neg, Nat.not_lt_zero, if_false, if_true]
theorem M_holdPart {c k : Nat} (h : 48 + 4 * c + k < 336) (st : Nat → Int32) : fX8_holdPart st (nI c) (nI k) = some (st (48 + 4 * c + k)) := by
  simp (disch := omega) only [fX8_holdPart, lit_0, lit_1, lit_2, lit_3, lit_4, lit_5, lit_6, lit_7, lit_8, lit_9, lit_10, lit_11, lit_12, lit_13, lit_14, lit_15, lit_16, lit_17, lit_18, lit_19, lit_20, lit_21, lit_22, lit_23, lit_24, lit_30, lit_48, lit_57, lit_60, lit_80, lit_96, lit_108, lit_126, lit_168, lit_255, lit_336, lit_400, lts, bd0_s, bd1_s, bd2_s, bd3_s, bd4_s, bd5_s, bd6_s, bd7_s, nI_add, pk_mul, nI_sub, nI_clamp, nI_leI, nI_ltI, nI_eq, ckI_ok, if_pos, if_neg, Nat.not_lt_zero, if_false, if_true]
theorem M_billPart {c k : Nat} (h : 108 + 4 * c + k < 336) (st : Nat → Int32) : fX8_billPart st (nI c) (nI k) = some (st (108 + 4 * c + k)) := by
  simp (disch := omega) only [fX8_billPart, lit_0, lit_1, lit_2, lit_3, lit_4, lit_5, lit_6, lit_7, lit_8, lit_9, lit_10, lit_11, lit_12, lit_13, lit_14, lit_15, lit_16, lit_17, lit_18, lit_19, lit_20, lit_21, lit_22, lit_23, lit_24, lit_30, lit_48, lit_57, lit_60, lit_80, lit_96, lit_108, lit_126, lit_168, lit_255, lit_336, lit_400, lts, bd0_s, bd1_s, bd2_s, bd3_s, bd4_s, bd5_s, bd6_s, bd7_s, nI_add, pk_mul, nI_sub, nI_clamp, nI_leI, nI_ltI, nI_eq, ckI_ok, if_pos, if_neg, Nat.not_lt_zero, if_false, if_true]
theorem M_adds {c : Nat} (h : c < 100) (st : Nat → Int32) (a : Int32) : fX8_adds st (nI c) a = some (st (13 + 3 * c) + a, upd st (13 + 3 * c) (st (13 + 3 * c) + a)) := by
  have g1 := M_part (c := c) (k := 1) (by omega) st
  have g2 := M_setPart (c := c) (k := 1) (by omega) st (st (13 + 3 * c) + a)
  have g3 := M_part (c := c) (k := 1) (by omega) (upd st (13 + 3 * c) (st (13 + 3 * c) + a))
  have e : 12 + 3 * c + 1 = 13 + 3 * c := by omega
  rw [e] at g1 g2 g3
  rw [upd_s] at g3
  unfold fX8_adds
  rw [show (1 : Int32) = nI 1 from rfl, g1, bd1_s, g2, bd1_s, g3, bd1_s]
theorem M_find_L {C : Nat} (hC : C ≤ 12) {st : Nat → Int32} (h5 : st 5 = nI C) (cl z : Int32) : ∀ (n i : Nat) (f : Int32), i ≤ C → C - i < n → (∀ j, i ≤ j → j < C → ¬ st (12 + 3 * j) = cl) → fX8_find_L5 st cl n f (nI i) = some f := by
  intro n
  induction n with
  | zero => intro i f h1 h2; omega
  | succ n ih =>
    intro i f h1 h2 h3
    rw [fX8_find_L5]
    by_cases e : i = C
    · subst e
      simp (disch := omega) only [lit_0, lit_1, lit_2, lit_3, lit_4, lit_5, lit_6, lit_7, lit_8, lit_9, lit_10, lit_11, lit_12, lit_13, lit_14, lit_15, lit_16, lit_17, lit_18, lit_19, lit_20, lit_21, lit_22, lit_23, lit_24, lit_30, lit_48, lit_57, lit_60, lit_80, lit_96, lit_108, lit_126, lit_168, lit_255, lit_336, lit_400, lts, bd0_s, bd1_s, bd2_s, bd3_s, bd4_s, bd5_s, bd6_s, bd7_s, nI_add, pk_mul, nI_sub, nI_clamp, nI_leI, nI_ltI, nI_eq, ckI_ok, if_pos, if_neg, Nat.not_lt_zero, if_false, if_true, h5]
    · have g := M_part (c := i) (k := 0) (by omega) st
      simp (disch := omega) only [lit_0, lit_1, lit_2, lit_3, lit_4, lit_5, lit_6, lit_7, lit_8, lit_9, lit_10, lit_11, lit_12, lit_13, lit_14, lit_15, lit_16, lit_17, lit_18, lit_19, lit_20, lit_21, lit_22, lit_23, lit_24, lit_30, lit_48, lit_57, lit_60, lit_80, lit_96, lit_108, lit_126, lit_168, lit_255, lit_336, lit_400, lts, bd0_s, bd1_s, bd2_s, bd3_s, bd4_s, bd5_s, bd6_s, bd7_s, nI_add, pk_mul, nI_sub, nI_clamp, nI_leI, nI_ltI, nI_eq, ckI_ok, if_pos, if_neg, Nat.not_lt_zero, if_false, if_true, h5, g, Nat.add_zero]
      rw [if_neg (h3 i (Nat.le_refl i) (by omega))]
      exact ih (i + 1) f (by omega) (by omega) (fun j hj => h3 j (by omega))
theorem M_find_La {C k : Nat} (hC : C ≤ 12) (hk : k < C) {st : Nat → Int32} (h5 : st 5 = nI C) {cl : Int32} (h : st (12 + 3 * k) = cl) (hu : ∀ j, j < C → j ≠ k → ¬ st (12 + 3 * j) = cl) : ∀ (n i : Nat) (f : Int32), i ≤ k → C - i < n → fX8_find_L5 st cl n f (nI i) = some (nI k) := by
  intro n
  induction n with
  | zero => intro i f h1 h2; omega
  | succ n ih =>
    intro i f h1 h2
    rw [fX8_find_L5]
    have g := M_part (c := i) (k := 0) (by omega) st
    simp (disch := omega) only [lit_0, lit_1, lit_2, lit_3, lit_4, lit_5, lit_6, lit_7, lit_8, lit_9, lit_10, lit_11, lit_12, lit_13, lit_14, lit_15, lit_16, lit_17, lit_18, lit_19, lit_20, lit_21, lit_22, lit_23, lit_24, lit_30, lit_48, lit_57, lit_60, lit_80, lit_96, lit_108, lit_126, lit_168, lit_255, lit_336, lit_400, lts, bd0_s, bd1_s, bd2_s, bd3_s, bd4_s, bd5_s, bd6_s, bd7_s, nI_add, pk_mul, nI_sub, nI_clamp, nI_leI, nI_ltI, nI_eq, ckI_ok, if_pos, if_neg, Nat.not_lt_zero, if_false, if_true, h5, g, Nat.add_zero]
    by_cases e : i = k
    · subst e
      rw [if_pos h]
      exact M_find_L hC h5 cl cl n (i + 1) (nI i) (by omega) (by omega) (fun j h1 h2 => hu j h2 (by omega))
    · rw [if_neg (hu i (by omega) e)]
      exact ih (i + 1) f (by omega) (by omega)
theorem M_find_i {C k : Nat} (hC : C ≤ 12) (hk : k < C) {st : Nat → Int32} (h5 : st 5 = nI C) {cl : Int32} (h : st (12 + 3 * k) = cl) (hu : ∀ j, j < C → j ≠ k → ¬ st (12 + 3 * j) = cl) : fX8_find st cl = some (nI k) := by
  unfold fX8_find
  have e := M_find_La hC hk h5 h hu 2147483648 0 (-6) (Nat.zero_le _) (by omega)
  rw [nI_0] at e
  rw [e]; rfl
theorem M_find_n {C : Nat} (hC : C ≤ 12) {st : Nat → Int32} (h5 : st 5 = nI C) {cl : Int32} (hu : ∀ j, j < C → ¬ st (12 + 3 * j) = cl) : fX8_find st cl = some (-6) := by
  unfold fX8_find
  have e := M_find_L hC h5 cl cl 2147483648 0 (-6) (Nat.zero_le _) (by omega) (fun j _ => hu j)
  rw [nI_0] at e
  rw [e]; rfl
theorem M_findHold_L {R : Nat} (hR : R ≤ 15) {st : Nat → Int32} (h5 : st 6 = nI R) (cl : Int32) : ∀ (n i : Nat) (f : Int32), i ≤ R → R - i < n → (∀ j, i ≤ j → j < R → ¬ st (48 + 4 * j) = cl) → fX8_findHold_L5 st cl n f (nI i) = some f := by
  intro n
  induction n with
  | zero => intro i f h1 h2; omega
  | succ n ih =>
    intro i f h1 h2 h3
    rw [fX8_findHold_L5]
    by_cases e : i = R
    · subst e
      simp (disch := omega) only [lit_0, lit_1, lit_2, lit_3, lit_4, lit_5, lit_6, lit_7, lit_8, lit_9, lit_10, lit_11, lit_12, lit_13, lit_14, lit_15, lit_16, lit_17, lit_18, lit_19, lit_20, lit_21, lit_22, lit_23, lit_24, lit_30, lit_48, lit_57, lit_60, lit_80, lit_96, lit_108, lit_126, lit_168, lit_255, lit_336, lit_400, lts, bd0_s, bd1_s, bd2_s, bd3_s, bd4_s, bd5_s, bd6_s, bd7_s, nI_add, pk_mul, nI_sub, nI_clamp, nI_leI, nI_ltI, nI_eq, ckI_ok, if_pos, if_neg, Nat.not_lt_zero, if_false, if_true, h5]
    · have g := M_holdPart (c := i) (k := 0) (by omega) st
      simp (disch := omega) only [lit_0, lit_1, lit_2, lit_3, lit_4, lit_5, lit_6, lit_7, lit_8, lit_9, lit_10, lit_11, lit_12, lit_13, lit_14, lit_15, lit_16, lit_17, lit_18, lit_19, lit_20, lit_21, lit_22, lit_23, lit_24, lit_30, lit_48, lit_57, lit_60, lit_80, lit_96, lit_108, lit_126, lit_168, lit_255, lit_336, lit_400, lts, bd0_s, bd1_s, bd2_s, bd3_s, bd4_s, bd5_s, bd6_s, bd7_s, nI_add, pk_mul, nI_sub, nI_clamp, nI_leI, nI_ltI, nI_eq, ckI_ok, if_pos, if_neg, Nat.not_lt_zero, if_false, if_true, h5, g, Nat.add_zero]
      rw [if_neg (h3 i (Nat.le_refl i) (by omega))]
      exact ih (i + 1) f (by omega) (by omega) (fun j hj => h3 j (by omega))
theorem M_findHold_La {R k : Nat} (hR : R ≤ 15) (hk : k < R) {st : Nat → Int32} (h5 : st 6 = nI R) {cl : Int32} (h : st (48 + 4 * k) = cl) (hu : ∀ j, j < R → j ≠ k → ¬ st (48 + 4 * j) = cl) : ∀ (n i : Nat) (f : Int32), i ≤ k → R - i < n → fX8_findHold_L5 st cl n f (nI i) = some (nI k) := by
  intro n
  induction n with
  | zero => intro i f h1 h2; omega
  | succ n ih =>
    intro i f h1 h2
    rw [fX8_findHold_L5]
    have g := M_holdPart (c := i) (k := 0) (by omega) st
    simp (disch := omega) only [lit_0, lit_1, lit_2, lit_3, lit_4, lit_5, lit_6, lit_7, lit_8, lit_9, lit_10, lit_11, lit_12, lit_13, lit_14, lit_15, lit_16, lit_17, lit_18, lit_19, lit_20, lit_21, lit_22, lit_23, lit_24, lit_30, lit_48, lit_57, lit_60, lit_80, lit_96, lit_108, lit_126, lit_168, lit_255, lit_336, lit_400, lts, bd0_s, bd1_s, bd2_s, bd3_s, bd4_s, bd5_s, bd6_s, bd7_s, nI_add, pk_mul, nI_sub, nI_clamp, nI_leI, nI_ltI, nI_eq, ckI_ok, if_pos, if_neg, Nat.not_lt_zero, if_false, if_true, h5, g, Nat.add_zero]
    by_cases e : i = k
    · subst e
      rw [if_pos h]
      exact M_findHold_L hR h5 cl n (i + 1) (nI i) (by omega) (by omega) (fun j h1 h2 => hu j h2 (by omega))
    · rw [if_neg (hu i (by omega) e)]
      exact ih (i + 1) f (by omega) (by omega)
theorem M_findHold_i {R k : Nat} (hR : R ≤ 15) (hk : k < R) {st : Nat → Int32} (h5 : st 6 = nI R) {cl : Int32} (h : st (48 + 4 * k) = cl) (hu : ∀ j, j < R → j ≠ k → ¬ st (48 + 4 * j) = cl) : fX8_findHold st cl = some (nI k) := by
  unfold fX8_findHold
  have e := M_findHold_La hR hk h5 h hu 2147483648 0 (-6) (Nat.zero_le _) (by omega)
  rw [nI_0] at e
  rw [e]; rfl
theorem M_findHold_n {R : Nat} (hR : R ≤ 15) {st : Nat → Int32} (h5 : st 6 = nI R) {cl : Int32} (hu : ∀ j, j < R → ¬ st (48 + 4 * j) = cl) : fX8_findHold st cl = some (-6) := by
  unfold fX8_findHold
  have e := M_findHold_L hR h5 cl 2147483648 0 (-6) (Nat.zero_le _) (by omega) (fun j _ => hu j)
  rw [nI_0] at e
  rw [e]; rfl
theorem M_findBill_L {R : Nat} (hR : R ≤ 15) {st : Nat → Int32} (h5 : st 7 = nI R) (cl : Int32) : ∀ (n i : Nat) (f : Int32), i ≤ R → R - i < n → (∀ j, i ≤ j → j < R → ¬ st (108 + 4 * j) = cl) → fX8_findBill_L5 st cl n f (nI i) = some f := by
  intro n
  induction n with
  | zero => intro i f h1 h2; omega
  | succ n ih =>
    intro i f h1 h2 h3
    rw [fX8_findBill_L5]
    by_cases e : i = R
    · subst e
      simp (disch := omega) only [lit_0, lit_1, lit_2, lit_3, lit_4, lit_5, lit_6, lit_7, lit_8, lit_9, lit_10, lit_11, lit_12, lit_13, lit_14, lit_15, lit_16, lit_17, lit_18, lit_19, lit_20, lit_21, lit_22, lit_23, lit_24, lit_30, lit_48, lit_57, lit_60, lit_80, lit_96, lit_108, lit_126, lit_168, lit_255, lit_336, lit_400, lts, bd0_s, bd1_s, bd2_s, bd3_s, bd4_s, bd5_s, bd6_s, bd7_s, nI_add, pk_mul, nI_sub, nI_clamp, nI_leI, nI_ltI, nI_eq, ckI_ok, if_pos, if_neg, Nat.not_lt_zero, if_false, if_true, h5]
    · have g := M_billPart (c := i) (k := 0) (by omega) st
      simp (disch := omega) only [lit_0, lit_1, lit_2, lit_3, lit_4, lit_5, lit_6, lit_7, lit_8, lit_9, lit_10, lit_11, lit_12, lit_13, lit_14, lit_15, lit_16, lit_17, lit_18, lit_19, lit_20, lit_21, lit_22, lit_23, lit_24, lit_30, lit_48, lit_57, lit_60, lit_80, lit_96, lit_108, lit_126, lit_168, lit_255, lit_336, lit_400, lts, bd0_s, bd1_s, bd2_s, bd3_s, bd4_s, bd5_s, bd6_s, bd7_s, nI_add, pk_mul, nI_sub, nI_clamp, nI_leI, nI_ltI, nI_eq, ckI_ok, if_pos, if_neg, Nat.not_lt_zero, if_false, if_true, h5, g, Nat.add_zero]
      rw [if_neg (h3 i (Nat.le_refl i) (by omega))]
      exact ih (i + 1) f (by omega) (by omega) (fun j hj => h3 j (by omega))
theorem M_findBill_La {R k : Nat} (hR : R ≤ 15) (hk : k < R) {st : Nat → Int32} (h5 : st 7 = nI R) {cl : Int32} (h : st (108 + 4 * k) = cl) (hu : ∀ j, j < R → j ≠ k → ¬ st (108 + 4 * j) = cl) : ∀ (n i : Nat) (f : Int32), i ≤ k → R - i < n → fX8_findBill_L5 st cl n f (nI i) = some (nI k) := by
  intro n
  induction n with
  | zero => intro i f h1 h2; omega
  | succ n ih =>
    intro i f h1 h2
    rw [fX8_findBill_L5]
    have g := M_billPart (c := i) (k := 0) (by omega) st
    simp (disch := omega) only [lit_0, lit_1, lit_2, lit_3, lit_4, lit_5, lit_6, lit_7, lit_8, lit_9, lit_10, lit_11, lit_12, lit_13, lit_14, lit_15, lit_16, lit_17, lit_18, lit_19, lit_20, lit_21, lit_22, lit_23, lit_24, lit_30, lit_48, lit_57, lit_60, lit_80, lit_96, lit_108, lit_126, lit_168, lit_255, lit_336, lit_400, lts, bd0_s, bd1_s, bd2_s, bd3_s, bd4_s, bd5_s, bd6_s, bd7_s, nI_add, pk_mul, nI_sub, nI_clamp, nI_leI, nI_ltI, nI_eq, ckI_ok, if_pos, if_neg, Nat.not_lt_zero, if_false, if_true, h5, g, Nat.add_zero]
    by_cases e : i = k
    · subst e
      rw [if_pos h]
      exact M_findBill_L hR h5 cl n (i + 1) (nI i) (by omega) (by omega) (fun j h1 h2 => hu j h2 (by omega))
    · rw [if_neg (hu i (by omega) e)]
      exact ih (i + 1) f (by omega) (by omega)
theorem M_findBill_i {R k : Nat} (hR : R ≤ 15) (hk : k < R) {st : Nat → Int32} (h5 : st 7 = nI R) {cl : Int32} (h : st (108 + 4 * k) = cl) (hu : ∀ j, j < R → j ≠ k → ¬ st (108 + 4 * j) = cl) : fX8_findBill st cl = some (nI k) := by
  unfold fX8_findBill
  have e := M_findBill_La hR hk h5 h hu 2147483648 0 (-6) (Nat.zero_le _) (by omega)
  rw [nI_0] at e
  rw [e]; rfl
theorem M_findBill_n {R : Nat} (hR : R ≤ 15) {st : Nat → Int32} (h5 : st 7 = nI R) {cl : Int32} (hu : ∀ j, j < R → ¬ st (108 + 4 * j) = cl) : fX8_findBill st cl = some (-6) := by
  unfold fX8_findBill
  have e := M_findBill_L hR h5 cl 2147483648 0 (-6) (Nat.zero_le _) (by omega) (fun j _ => hu j)
  rw [nI_0] at e
  rw [e]; rfl
theorem M_heldOn_L {R : Nat} (hR : R ≤ 15) {st : Nat → Int32} (h6 : st 6 = nI R) (cl d : Int32) : ∀ (n i : Nat), i ≤ R → R - i < n → fX8_heldOn_L5 st cl d n (sumI (fun j => decide (st (48 + 4 * j + 1) = cl) && !decide (st (48 + 4 * j + 3) < d)) (fun j => st (48 + 4 * j + 2)) i) (nI i) = some (sumI (fun j => decide (st (48 + 4 * j + 1) = cl) && !decide (st (48 + 4 * j + 3) < d)) (fun j => st (48 + 4 * j + 2)) R) := by
  intro n
  induction n with
  | zero => intro i h1 h2; omega
  | succ n ih =>
    intro i h1 h2
    rw [fX8_heldOn_L5]
    by_cases e : i = R
    · subst e
      simp (disch := omega) only [lit_0, lit_1, lit_2, lit_3, lit_4, lit_5, lit_6, lit_7, lit_8, lit_9, lit_10, lit_11, lit_12, lit_13, lit_14, lit_15, lit_16, lit_17, lit_18, lit_19, lit_20, lit_21, lit_22, lit_23, lit_24, lit_30, lit_48, lit_57, lit_60, lit_80, lit_96, lit_108, lit_126, lit_168, lit_255, lit_336, lit_400, lts, bd0_s, bd1_s, bd2_s, bd3_s, bd4_s, bd5_s, bd6_s, bd7_s, nI_add, pk_mul, nI_sub, nI_clamp, nI_leI, nI_ltI, nI_eq, ckI_ok, if_pos, if_neg, Nat.not_lt_zero, if_false, if_true, h6]
    · have g1 := M_holdPart (c := i) (k := 1) (by omega) st
      have g2 := M_holdPart (c := i) (k := 2) (by omega) st
      have g3 := M_holdPart (c := i) (k := 3) (by omega) st
      have h3 := ih (i + 1) (by omega) (by omega)
      rw [sumI] at h3
      have hle : ¬ nI R ≤ nI i := nI_ge (by omega) (by omega)
      rw [show ckI 6 336 _ = _ from ckI_ok (i := 6) (by omega) (by omega), show (6 : Int32).toNatClampNeg = 6 from rfl, h6, if_neg hle, show (1 : Int32) = nI 1 from rfl, show (2 : Int32) = nI 2 from rfl, show (3 : Int32) = nI 3 from rfl, g1, bd1_s, g2, bd1_s, g3, bd1_s, nI_add]
      simp only [lts, Int32.add_zero]
      by_cases c1 : st (48 + 4 * i + 1) = cl
      · rw [if_pos c1]
        by_cases c2 : st (48 + 4 * i + 3) < d
        · rw [if_pos c2]
          rw [if_neg (by simp [c1, c2])] at h3
          exact h3
        · rw [if_neg c2]
          rw [if_pos (by simp [c1, c2])] at h3
          exact h3
      · rw [if_neg c1]
        rw [if_neg (by simp [c1])] at h3
        exact h3
theorem M_heldOn {R : Nat} (hR : R ≤ 15) {st : Nat → Int32} (h6 : st 6 = nI R) (cl d : Int32) : fX8_heldOn st cl d = some (sumI (fun j => decide (st (48 + 4 * j + 1) = cl) && !decide (st (48 + 4 * j + 3) < d)) (fun j => st (48 + 4 * j + 2)) R) := by
  unfold fX8_heldOn
  have e := M_heldOn_L hR h6 cl d 2147483648 0 (Nat.zero_le _) (by omega)
  rw [nI_0] at e
  rw [show (sumI (fun j => decide (st (48 + 4 * j + 1) = cl) && !decide (st (48 + 4 * j + 3) < d)) (fun j => st (48 + 4 * j + 2)) 0) = 0 from rfl] at e
  rw [e]; rfl
theorem M_billsOf_L {R : Nat} (hR : R ≤ 15) {st : Nat → Int32} (h6 : st 7 = nI R) (cl : Int32) : ∀ (n i : Nat), i ≤ R → R - i < n → fX8_billsOf_L4 st cl n (sumI (fun j => decide (st (108 + 4 * j + 1) = cl)) (fun _ => 1) i) (nI i) = some (sumI (fun j => decide (st (108 + 4 * j + 1) = cl)) (fun _ => 1) R) := by
  intro n
  induction n with
  | zero => intro i h1 h2; omega
  | succ n ih =>
    intro i h1 h2
    rw [fX8_billsOf_L4]
    by_cases e : i = R
    · subst e
      simp (disch := omega) only [lit_0, lit_1, lit_2, lit_3, lit_4, lit_5, lit_6, lit_7, lit_8, lit_9, lit_10, lit_11, lit_12, lit_13, lit_14, lit_15, lit_16, lit_17, lit_18, lit_19, lit_20, lit_21, lit_22, lit_23, lit_24, lit_30, lit_48, lit_57, lit_60, lit_80, lit_96, lit_108, lit_126, lit_168, lit_255, lit_336, lit_400, lts, bd0_s, bd1_s, bd2_s, bd3_s, bd4_s, bd5_s, bd6_s, bd7_s, nI_add, pk_mul, nI_sub, nI_clamp, nI_leI, nI_ltI, nI_eq, ckI_ok, if_pos, if_neg, Nat.not_lt_zero, if_false, if_true, h6]
    · have g1 : fX8_billPart st (nI i) 1 = _ := M_billPart (c := i) (k := 1) (by omega) st
      have g2 : fX8_billPart st (nI i) 2 = _ := M_billPart (c := i) (k := 2) (by omega) st
      have h3 := ih (i + 1) (by omega) (by omega)
      rw [sumI] at h3
      have hle : ¬ nI R ≤ nI i := nI_ge (by omega) (by omega)
      rw [show ckI 7 336 _ = _ from ckI_ok (i := 7) (by omega) (by omega), show (7 : Int32).toNatClampNeg = 7 from rfl, h6, if_neg hle]
      simp only [g1, g2, bd1_s, nI_1, lts, Int32.add_zero]
      by_cases c1 : st (108 + 4 * i + 1) = cl
      · rw [if_pos c1]
        rw [if_pos (by simp [c1])] at h3
        exact h3
      · rw [if_neg c1]
        rw [if_neg (by simp [c1])] at h3
        exact h3
theorem M_billsOf {R : Nat} (hR : R ≤ 15) {st : Nat → Int32} (h6 : st 7 = nI R) (cl : Int32) : fX8_billsOf st cl = some (sumI (fun j => decide (st (108 + 4 * j + 1) = cl)) (fun _ => 1) R) := by
  unfold fX8_billsOf
  have e := M_billsOf_L hR h6 cl 2147483648 0 (Nat.zero_le _) (by omega)
  rw [nI_0] at e
  rw [show (sumI (fun j => decide (st (108 + 4 * j + 1) = cl)) (fun _ => 1) 0) = 0 from rfl] at e
  rw [e]; rfl
theorem M_holdsOf_L {R : Nat} (hR : R ≤ 15) {st : Nat → Int32} (h6 : st 6 = nI R) (cl : Int32) : ∀ (n i : Nat), i ≤ R → R - i < n → fX8_holdsOf_L4 st cl n (sumI (fun j => decide (st (48 + 4 * j + 1) = cl)) (fun _ => 1) i) (nI i) = some (sumI (fun j => decide (st (48 + 4 * j + 1) = cl)) (fun _ => 1) R) := by
  intro n
  induction n with
  | zero => intro i h1 h2; omega
  | succ n ih =>
    intro i h1 h2
    rw [fX8_holdsOf_L4]
    by_cases e : i = R
    · subst e
      simp (disch := omega) only [lit_0, lit_1, lit_2, lit_3, lit_4, lit_5, lit_6, lit_7, lit_8, lit_9, lit_10, lit_11, lit_12, lit_13, lit_14, lit_15, lit_16, lit_17, lit_18, lit_19, lit_20, lit_21, lit_22, lit_23, lit_24, lit_30, lit_48, lit_57, lit_60, lit_80, lit_96, lit_108, lit_126, lit_168, lit_255, lit_336, lit_400, lts, bd0_s, bd1_s, bd2_s, bd3_s, bd4_s, bd5_s, bd6_s, bd7_s, nI_add, pk_mul, nI_sub, nI_clamp, nI_leI, nI_ltI, nI_eq, ckI_ok, if_pos, if_neg, Nat.not_lt_zero, if_false, if_true, h6]
    · have g1 : fX8_holdPart st (nI i) 1 = _ := M_holdPart (c := i) (k := 1) (by omega) st
      have g2 : fX8_holdPart st (nI i) 2 = _ := M_holdPart (c := i) (k := 2) (by omega) st
      have h3 := ih (i + 1) (by omega) (by omega)
      rw [sumI] at h3
      have hle : ¬ nI R ≤ nI i := nI_ge (by omega) (by omega)
      rw [show ckI 6 336 _ = _ from ckI_ok (i := 6) (by omega) (by omega), show (6 : Int32).toNatClampNeg = 6 from rfl, h6, if_neg hle]
      simp only [g1, g2, bd1_s, nI_1, lts, Int32.add_zero]
      by_cases c1 : st (48 + 4 * i + 1) = cl
      · rw [if_pos c1]
        rw [if_pos (by simp [c1])] at h3
        exact h3
      · rw [if_neg c1]
        rw [if_neg (by simp [c1])] at h3
        exact h3
theorem M_holdsOf {R : Nat} (hR : R ≤ 15) {st : Nat → Int32} (h6 : st 6 = nI R) (cl : Int32) : fX8_holdsOf st cl = some (sumI (fun j => decide (st (48 + 4 * j + 1) = cl)) (fun _ => 1) R) := by
  unfold fX8_holdsOf
  have e := M_holdsOf_L hR h6 cl 2147483648 0 (Nat.zero_le _) (by omega)
  rw [nI_0] at e
  rw [show (sumI (fun j => decide (st (48 + 4 * j + 1) = cl)) (fun _ => 1) 0) = 0 from rfl] at e
  rw [e]; rfl
theorem M_restOf_L {R : Nat} (hR : R ≤ 15) {st : Nat → Int32} (h6 : st 7 = nI R) (cl : Int32) : ∀ (n i : Nat), i ≤ R → R - i < n → fX8_restOf_L4 st cl n (sumI (fun j => decide (st (108 + 4 * j + 1) = cl)) (fun j => st (108 + 4 * j + 2)) i) (nI i) = some (sumI (fun j => decide (st (108 + 4 * j + 1) = cl)) (fun j => st (108 + 4 * j + 2)) R) := by
  intro n
  induction n with
  | zero => intro i h1 h2; omega
  | succ n ih =>
    intro i h1 h2
    rw [fX8_restOf_L4]
    by_cases e : i = R
    · subst e
      simp (disch := omega) only [lit_0, lit_1, lit_2, lit_3, lit_4, lit_5, lit_6, lit_7, lit_8, lit_9, lit_10, lit_11, lit_12, lit_13, lit_14, lit_15, lit_16, lit_17, lit_18, lit_19, lit_20, lit_21, lit_22, lit_23, lit_24, lit_30, lit_48, lit_57, lit_60, lit_80, lit_96, lit_108, lit_126, lit_168, lit_255, lit_336, lit_400, lts, bd0_s, bd1_s, bd2_s, bd3_s, bd4_s, bd5_s, bd6_s, bd7_s, nI_add, pk_mul, nI_sub, nI_clamp, nI_leI, nI_ltI, nI_eq, ckI_ok, if_pos, if_neg, Nat.not_lt_zero, if_false, if_true, h6]
    · have g1 : fX8_billPart st (nI i) 1 = _ := M_billPart (c := i) (k := 1) (by omega) st
      have g2 : fX8_billPart st (nI i) 2 = _ := M_billPart (c := i) (k := 2) (by omega) st
      have h3 := ih (i + 1) (by omega) (by omega)
      rw [sumI] at h3
      have hle : ¬ nI R ≤ nI i := nI_ge (by omega) (by omega)
      rw [show ckI 7 336 _ = _ from ckI_ok (i := 7) (by omega) (by omega), show (7 : Int32).toNatClampNeg = 7 from rfl, h6, if_neg hle]
      simp only [g1, g2, bd1_s, nI_1, lts, Int32.add_zero]
      by_cases c1 : st (108 + 4 * i + 1) = cl
      · rw [if_pos c1]
        rw [if_pos (by simp [c1])] at h3
        exact h3
      · rw [if_neg c1]
        rw [if_neg (by simp [c1])] at h3
        exact h3
theorem M_restOf {R : Nat} (hR : R ≤ 15) {st : Nat → Int32} (h6 : st 7 = nI R) (cl : Int32) : fX8_restOf st cl = some (sumI (fun j => decide (st (108 + 4 * j + 1) = cl)) (fun j => st (108 + 4 * j + 2)) R) := by
  unfold fX8_restOf
  have e := M_restOf_L hR h6 cl 2147483648 0 (Nat.zero_le _) (by omega)
  rw [nI_0] at e
  rw [show (sumI (fun j => decide (st (108 + 4 * j + 1) = cl)) (fun j => st (108 + 4 * j + 2)) 0) = 0 from rfl] at e
  rw [e]; rfl
/-- rows from the place g on go one place down -/
theorem M_out_a {b R : Nat} (hb : b + 4 * R < 336) (hR : 0 < R) : ∀ (n j : Nat) (st : Nat → Int32), j ≤ b + 4 * R → b + 4 * (R - 1) - j < n → ∃ st', fX8_takesOut_L7 (nI b) (nI R) n st (nI j) = some st' ∧ ∀ i, st' i = if j ≤ i ∧ i < b + 4 * (R - 1) then st (i + 4) else st i := by
  intro n
  induction n with
  | zero => intro j st h1 h2; omega
  | succ n ih =>
    intro j st h1 h2
    rw [fX8_takesOut_L7]
    have eb : nI b + 4 * (nI R - 1) = nI (b + 4 * (R - 1)) := by
      rw [show (1 : Int32) = nI 1 from rfl, show (4 : Int32) = nI 4 from rfl, nI_sub (by omega), pk_mul, nI_add]
    rw [eb]
    by_cases e : b + 4 * (R - 1) ≤ j
    · exact ⟨st, by rw [if_pos (nI_le e (by omega))], fun i => by rw [if_neg (by omega)]⟩
    · obtain ⟨st', h3, h4⟩ := ih (j + 1) (upd st j (st (j + 4))) (by omega) (by omega)
      refine ⟨st', ?_, fun i => ?_⟩
      · rw [if_neg (nI_ge (by omega) (by omega)), show (4 : Int32) = nI 4 from rfl, nI_add, ckI_ok (by omega) (by omega), ckI_ok (by omega) (by omega), lts, nI_clamp (by omega), nI_clamp (by omega), nI_1]
        exact h3
      · rw [h4 i]
        by_cases c1 : i = j
        · subst c1
          rw [if_neg (by omega), if_pos (by omega), upd_s]
        · by_cases c2 : j + 1 ≤ i ∧ i < b + 4 * (R - 1)
          · rw [if_pos c2, if_pos (by omega), upd_n (by omega)]
          · rw [if_neg c2, if_neg (by omega), upd_n c1]
theorem M_out_b {b R : Nat} (hb : b + 4 * R < 336) : ∀ (n j : Nat) (st : Nat → Int32), j ≤ b + 4 * R → b + 4 * R - j < n → ∃ st', fX8_takesOut_L50 (nI b) (nI R) n st (nI j) = some st' ∧ ∀ i, i < j ∨ b + 4 * R ≤ i → st' i = st i := by
  intro n
  induction n with
  | zero => intro j st h1 h2; omega
  | succ n ih =>
    intro j st h1 h2
    rw [fX8_takesOut_L50]
    have eb : nI b + 4 * nI R = nI (b + 4 * R) := by
      rw [show (4 : Int32) = nI 4 from rfl, pk_mul, nI_add]
    rw [eb]
    by_cases e : j = b + 4 * R
    · exact ⟨st, by rw [if_pos (nI_le (by omega) (by omega))], fun i _ => rfl⟩
    · obtain ⟨st', h3, h4⟩ := ih (j + 1) (upd st j 0) (by omega) (by omega)
      refine ⟨st', ?_, fun i hi => ?_⟩
      · rw [if_neg (nI_ge (by omega) (by omega)), ckI_ok (by omega) (by omega), lts, nI_clamp (by omega), nI_1]
        exact h3
      · rw [h4 i (by omega), upd_n (by omega)]
theorem M_takesOut {b R g : Nat} (hb : b + 4 * R < 336) (hg : g < R) (st : Nat → Int32) : ∃ st', fX8_takesOut st (nI b) (nI g) (nI R) = some st' ∧ (∀ i, i < b ∨ b + 4 * R ≤ i → st' i = st i) ∧ ∀ j, j < 4 * (R - 1) → st' (b + j) = if g * 4 ≤ j then st (b + j + 4) else st (b + j) := by
  obtain ⟨s1, h1, h2⟩ := M_out_a (b := b) (R := R) hb (by omega) 2147483648 (b + 4 * g) st (by omega) (by omega)
  obtain ⟨s2, h3, h4⟩ := M_out_b (b := b) (R := R) hb 2147483648 (b + 4 * (R - 1)) s1 (by omega) (by omega)
  refine ⟨s2, ?_, fun i hi => ?_, fun j hj => ?_⟩
  · unfold fX8_takesOut
    have e1 : nI b + 4 * nI g = nI (b + 4 * g) := by rw [show (4 : Int32) = nI 4 from rfl, pk_mul, nI_add]
    have e2 : nI b + 4 * (nI R - 1) = nI (b + 4 * (R - 1)) := by
      rw [show (1 : Int32) = nI 1 from rfl, show (4 : Int32) = nI 4 from rfl, nI_sub (by omega), pk_mul, nI_add]
    rw [lts, e1, h1, bd1_s, lts, e2, h3, bd1_s]
  · rw [h4 i (by omega), h2, if_neg (by omega)]
  · rw [h4 (b + j) (by omega), h2]
    by_cases q : g * 4 ≤ j
    · rw [if_pos (by omega), if_pos q]
    · rw [if_neg (by omega), if_neg q]
/-! trails -/
theorem rem24 {e : Nat} (h : e < 2 ^ 31) : nI e - nI e / 24 * 24 = nI (e % 24) := by
  rw [show (24 : Int32) = nI 24 from rfl]
  exact pk_rem h (by omega) (by omega)
theorem X6_cellOf {e k : Nat} (he : e < 2 ^ 31) : fX6_cellOf (nI e) (nI k) = some (nI (e % 24 * 7 + k)) := by
  unfold fX6_cellOf
  rw [rem24 he, show (7 : Int32) = nI 7 from rfl, pk_mul, nI_add]
theorem X6_set {e k : Nat} (he : e < 2 ^ 31) (hk : k < 7) (tc : Nat → Int32) (v : Int32) : fX6_set tc (nI e) (nI k) v = some (upd tc (e % 24 * 7 + k) v) := by
  have hm : e % 24 < 24 := Nat.mod_lt _ (by omega)
  unfold fX6_set
  rw [X6_cellOf he, bd1_s, if_neg (nI_pos (by omega)), if_neg (show ¬ (168 : Int32) ≤ nI (e % 24 * 7 + k) from nI_ge (b := 168) (by omega) (by omega)), ckI_ok (by omega) (by omega), lts, nI_clamp (by omega)]
def chk (lc d k f s a : Int32) : Int32 := ((((((lc.toInt64 * 1009) + (d.toInt64 * 31)) + (k.toInt64 * 17)) + (f.toInt64 * 101)) + (s.toInt64 * 103)) + a.toInt64 - ((((((lc.toInt64 * 1009) + (d.toInt64 * 31)) + (k.toInt64 * 17)) + (f.toInt64 * 101)) + (s.toInt64 * 103)) + a.toInt64) / 1000003 * 1000003).toInt32
def ent7 (f : Nat → Int32) (b : Nat) (d k c s a h : Int32) : Nat → Int32 := upd (upd (upd (upd (upd (upd (upd f (b + 0) d) (b + 1) k) (b + 2) c) (b + 3) s) (b + 4) a) (b + 5) h) (b + 6) 0
theorem X6_append {E : Nat} (hE : E + 1 < 2 ^ 31) (lc : Int32) (tc : Nat → Int32) (d k c s a : Int32) : fX6_append (nI E) lc tc d k c s a = some (nI (E + 1), chk lc d k c s a, ent7 tc ((E + 1) % 24 * 7) d k c s a (chk lc d k c s a)) := by
  have g := fun (tc : Nat → Int32) (k : Nat) (hk : k < 7) (v : Int32) => X6_set (e := E + 1) (k := k) (by omega) hk tc v
  have g0 : ∀ (tc : Nat → Int32) (v : Int32), fX6_set tc (nI (E + 1)) 0 v = _ := fun tc v => g tc 0 (by omega) v
  have g1 : ∀ (tc : Nat → Int32) (v : Int32), fX6_set tc (nI (E + 1)) 1 v = _ := fun tc v => g tc 1 (by omega) v
  have g2 : ∀ (tc : Nat → Int32) (v : Int32), fX6_set tc (nI (E + 1)) 2 v = _ := fun tc v => g tc 2 (by omega) v
  have g3 : ∀ (tc : Nat → Int32) (v : Int32), fX6_set tc (nI (E + 1)) 3 v = _ := fun tc v => g tc 3 (by omega) v
  have g4 : ∀ (tc : Nat → Int32) (v : Int32), fX6_set tc (nI (E + 1)) 4 v = _ := fun tc v => g tc 4 (by omega) v
  have g5 : ∀ (tc : Nat → Int32) (v : Int32), fX6_set tc (nI (E + 1)) 5 v = _ := fun tc v => g tc 5 (by omega) v
  have g6 : ∀ (tc : Nat → Int32) (v : Int32), fX6_set tc (nI (E + 1)) 6 v = _ := fun tc v => g tc 6 (by omega) v
  unfold fX6_append
  simp only [lts, nI_1, g0, g1, g2, g3, g4, g5, g6, bd1_s]
  rfl
theorem X6_get {E e k : Nat} (h1 : 1 ≤ e) (h2 : e ≤ E) (h3 : E < e + 24) (hE : E < 2 ^ 30) (hk : k < 7) (tc : Nat → Int32) (hkp : fX6_keeps (nI E) (nI e) = some 1) : fX6_get (nI E) tc (nI e) (nI k) = some (tc (e % 24 * 7 + k)) := by
  have hm : e % 24 < 24 := Nat.mod_lt _ (by omega)
  unfold fX6_get
  rw [X6_cellOf (by omega), bd1_s, hkp, bd1_s, if_neg (by decide), if_neg (nI_pos (by omega)), if_neg (show ¬ (168 : Int32) ≤ nI (e % 24 * 7 + k) from nI_ge (b := 168) (by omega) (by omega)), ckI_ok (by omega) (by omega), nI_clamp (by omega)]
theorem keeps_i {E : Nat} (hE : E < 2 ^ 30) (x : Int32) : fX6_keeps (nI E) x = some (if 1 ≤ x.toInt ∧ x.toInt ≤ E ∧ (E : Int) < x.toInt + 24 then 1 else 0) := by
  unfold fX6_keeps
  have e24 : (nI E - 24).toInt = (E : Int) - (24 : Nat) := pk_sub_toInt (a := E) (b := 24) (by omega) (by omega)
  have eE := nI_toInt (n := E) (by omega)
  have e1 : (1 : Int32).toInt = 1 := rfl
  simp only [Int32.lt_iff_toInt_lt, Int32.le_iff_toInt_le, e24, eE, e1]
  by_cases c1 : x.toInt < 1
  · rw [if_pos c1, if_neg (by omega)]
  · rw [if_neg c1]
    by_cases c2 : (E : Int) < x.toInt
    · rw [if_pos c2, if_neg (by omega)]
    · rw [if_neg c2]
      by_cases c3 : x.toInt ≤ (E : Int) - (24 : Nat)
      · rw [if_pos c3, if_neg (by omega)]
      · rw [if_neg c3, if_pos (by omega)]
theorem within_i (x lo hi : Int32) : fX8_within x lo hi = some (if lo.toInt ≤ x.toInt ∧ x.toInt ≤ hi.toInt then 1 else 0) := by
  unfold fX8_within
  simp only [Int32.lt_iff_toInt_lt]
  by_cases c1 : x.toInt < lo.toInt
  · rw [if_pos c1, if_neg (by omega)]
  · rw [if_neg c1]
    by_cases c2 : hi.toInt < x.toInt
    · rw [if_pos c2, if_neg (by omega)]
    · rw [if_neg c2, if_pos (by omega)]
theorem isEntry_i {E : Nat} (hE : E < 2 ^ 30) {st : Nat → Int32} (h10 : st 10 = nI E) (x : Int32) : fX8_isEntry st x = some (if 1 ≤ x.toInt ∧ x.toInt ≤ E ∧ (E : Int) < x.toInt + 24 then 1 else 0) := by
  have e24 : (nI E - 24).toInt = (E : Int) - (24 : Nat) := pk_sub_toInt (a := E) (b := 24) (by omega) (by omega)
  have eE := nI_toInt (n := E) (by omega)
  have e1 : (1 : Int32).toInt = 1 := rfl
  unfold fX8_isEntry
  rw [show ckI 10 336 _ = _ from ckI_ok (i := 10) (by omega) (by omega), show (10 : Int32).toNatClampNeg = 10 from rfl, h10, within_i, bd1_s, eE, e1]
  by_cases c1 : 1 ≤ x.toInt ∧ x.toInt ≤ (E : Int)
  · rw [if_pos c1, if_neg (by decide)]
    rw [show ckI 10 336 _ = _ from ckI_ok (i := 10) (by omega) (by omega)]
    simp only [Int32.le_iff_toInt_le, e24]
    by_cases c3 : x.toInt ≤ (E : Int) - (24 : Nat)
    · rw [if_pos c3, if_neg (by omega)]
    · rw [if_neg c3, if_pos (by omega)]
  · rw [if_neg c1, if_pos rfl, if_neg (by omega)]
theorem M_entryPart {e k : Nat} (h1 : 1 ≤ e) (he : e < 2 ^ 31) (hk : k < 7) (st : Nat → Int32) : fX8_entryPart st (nI e) (nI k) = some (st (168 + 7 * ((e - 1) % 24) + k)) := by
  have hm : (e - 1) % 24 < 24 := Nat.mod_lt _ (by omega)
  unfold fX8_entryPart
  rw [show (1 : Int32) = nI 1 from rfl, nI_sub h1, rem24 (by omega), show (168 : Int32) = nI 168 from rfl, show (7 : Int32) = nI 7 from rfl, pk_mul, nI_add, nI_add, ckI_ok (by omega) (by omega), nI_clamp (by omega)]
