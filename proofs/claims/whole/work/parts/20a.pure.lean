/-! the pure side, a: numbers; the small methods as plain words -/
theorem lit_0 : (0 : Int32) = nI 0 := rfl
theorem cl_0 : (0 : Int32).toNatClampNeg = 0 := by decide
theorem lit_1 : (1 : Int32) = nI 1 := rfl
theorem cl_1 : (1 : Int32).toNatClampNeg = 1 := by decide
theorem lit_2 : (2 : Int32) = nI 2 := rfl
theorem cl_2 : (2 : Int32).toNatClampNeg = 2 := by decide
theorem lit_3 : (3 : Int32) = nI 3 := rfl
theorem cl_3 : (3 : Int32).toNatClampNeg = 3 := by decide
theorem lit_4 : (4 : Int32) = nI 4 := rfl
theorem cl_4 : (4 : Int32).toNatClampNeg = 4 := by decide
theorem lit_5 : (5 : Int32) = nI 5 := rfl
theorem cl_5 : (5 : Int32).toNatClampNeg = 5 := by decide
theorem lit_6 : (6 : Int32) = nI 6 := rfl
theorem cl_6 : (6 : Int32).toNatClampNeg = 6 := by decide
theorem lit_7 : (7 : Int32) = nI 7 := rfl
theorem cl_7 : (7 : Int32).toNatClampNeg = 7 := by decide
theorem lit_8 : (8 : Int32) = nI 8 := rfl
theorem cl_8 : (8 : Int32).toNatClampNeg = 8 := by decide
theorem lit_9 : (9 : Int32) = nI 9 := rfl
theorem cl_9 : (9 : Int32).toNatClampNeg = 9 := by decide
theorem lit_10 : (10 : Int32) = nI 10 := rfl
theorem cl_10 : (10 : Int32).toNatClampNeg = 10 := by decide
theorem lit_11 : (11 : Int32) = nI 11 := rfl
theorem cl_11 : (11 : Int32).toNatClampNeg = 11 := by decide
theorem lit_12 : (12 : Int32) = nI 12 := rfl
theorem cl_12 : (12 : Int32).toNatClampNeg = 12 := by decide
theorem lit_13 : (13 : Int32) = nI 13 := rfl
theorem cl_13 : (13 : Int32).toNatClampNeg = 13 := by decide
theorem lit_14 : (14 : Int32) = nI 14 := rfl
theorem cl_14 : (14 : Int32).toNatClampNeg = 14 := by decide
theorem lit_15 : (15 : Int32) = nI 15 := rfl
theorem cl_15 : (15 : Int32).toNatClampNeg = 15 := by decide
theorem lit_16 : (16 : Int32) = nI 16 := rfl
theorem cl_16 : (16 : Int32).toNatClampNeg = 16 := by decide
theorem lit_17 : (17 : Int32) = nI 17 := rfl
theorem cl_17 : (17 : Int32).toNatClampNeg = 17 := by decide
theorem lit_18 : (18 : Int32) = nI 18 := rfl
theorem cl_18 : (18 : Int32).toNatClampNeg = 18 := by decide
theorem lit_19 : (19 : Int32) = nI 19 := rfl
theorem cl_19 : (19 : Int32).toNatClampNeg = 19 := by decide
theorem lit_20 : (20 : Int32) = nI 20 := rfl
theorem cl_20 : (20 : Int32).toNatClampNeg = 20 := by decide
theorem lit_21 : (21 : Int32) = nI 21 := rfl
theorem cl_21 : (21 : Int32).toNatClampNeg = 21 := by decide
theorem lit_22 : (22 : Int32) = nI 22 := rfl
theorem cl_22 : (22 : Int32).toNatClampNeg = 22 := by decide
theorem lit_23 : (23 : Int32) = nI 23 := rfl
theorem cl_23 : (23 : Int32).toNatClampNeg = 23 := by decide
theorem lit_24 : (24 : Int32) = nI 24 := rfl
theorem cl_24 : (24 : Int32).toNatClampNeg = 24 := by decide
theorem lit_30 : (30 : Int32) = nI 30 := rfl
theorem cl_30 : (30 : Int32).toNatClampNeg = 30 := by decide
theorem lit_48 : (48 : Int32) = nI 48 := rfl
theorem cl_48 : (48 : Int32).toNatClampNeg = 48 := by decide
theorem lit_57 : (57 : Int32) = nI 57 := rfl
theorem cl_57 : (57 : Int32).toNatClampNeg = 57 := by decide
theorem lit_60 : (60 : Int32) = nI 60 := rfl
theorem cl_60 : (60 : Int32).toNatClampNeg = 60 := by decide
theorem lit_80 : (80 : Int32) = nI 80 := rfl
theorem cl_80 : (80 : Int32).toNatClampNeg = 80 := by decide
theorem lit_96 : (96 : Int32) = nI 96 := rfl
theorem cl_96 : (96 : Int32).toNatClampNeg = 96 := by decide
theorem lit_108 : (108 : Int32) = nI 108 := rfl
theorem cl_108 : (108 : Int32).toNatClampNeg = 108 := by decide
theorem lit_126 : (126 : Int32) = nI 126 := rfl
theorem cl_126 : (126 : Int32).toNatClampNeg = 126 := by decide
theorem lit_168 : (168 : Int32) = nI 168 := rfl
theorem cl_168 : (168 : Int32).toNatClampNeg = 168 := by decide
theorem lit_255 : (255 : Int32) = nI 255 := rfl
theorem cl_255 : (255 : Int32).toNatClampNeg = 255 := by decide
theorem lit_336 : (336 : Int32) = nI 336 := rfl
theorem cl_336 : (336 : Int32).toNatClampNeg = 336 := by decide
theorem lit_400 : (400 : Int32) = nI 400 := rfl
theorem cl_400 : (400 : Int32).toNatClampNeg = 400 := by decide
theorem lts {α β : Type} {e : α} {k : α → Option β} : lt_ e k = k e := rfl
theorem ckI_ok {β : Type} {i N : Nat} (h : i < N) (hN : N < 2 ^ 31) {k : Option β} : ckI (nI i) N k = k := by
  unfold ckI
  exact if_neg (vp_in_nI h hN)
theorem nI_sub {a b : Nat} (h : b ≤ a) : nI a - nI b = nI (a - b) := pk_sub h
theorem m1_lt (n : Nat) (h : n < 2 ^ 31) : (-1 : Int32) < nI n := Int32.lt_iff_toInt_lt.mpr (by rw [nI_toInt h]; show (-1 : Int) < n; omega)
/-! Accounts -/
theorem X0_place {C i : Nat} (hi : i < C) (hC : C ≤ 12) : fX0_isPlace (nI C) (nI i) = some 1 := by
  simp (disch := omega) only [fX0_isPlace, lit_0, lit_1, lit_2, lit_3, lit_4, lit_5, lit_6, lit_7, lit_8, lit_9, lit_10, lit_11, lit_12, lit_13, lit_14, lit_15, lit_16, lit_17, lit_18, lit_19, lit_20, lit_21, lit_22, lit_23, lit_24, lit_30, lit_48, lit_57, lit_60, lit_80, lit_96, lit_108, lit_126, lit_168, lit_255, lit_336, lit_400, lts, bd0_s, bd1_s, bd2_s, bd3_s, bd4_s, bd5_s, bd6_s, bd7_s, nI_add, pk_mul, nI_sub, nI_clamp, nI_leI, nI_ltI, nI_eq, ckI_ok, if_pos, if_neg, Nat.not_lt_zero, if_false, if_true]
theorem X0_noplace (sz : Int32) : fX0_isPlace sz (-1) = some 0 := by
  unfold fX0_isPlace
  rw [if_pos (by decide)]
theorem X0_numberAt {C i : Nat} (hi : i < C) (hC : C ≤ 12) (nu : Nat → Int32) : fX0_numberAt (nI C) nu (nI i) = some (nu i) := by
  simp (disch := omega) only [fX0_numberAt, X0_place hi hC, bd1_s, lit_0, lit_1, lit_2, lit_3, lit_4, lit_5, lit_6, lit_7, lit_8, lit_9, lit_10, lit_11, lit_12, lit_13, lit_14, lit_15, lit_16, lit_17, lit_18, lit_19, lit_20, lit_21, lit_22, lit_23, lit_24, lit_30, lit_48, lit_57, lit_60, lit_80, lit_96, lit_108, lit_126, lit_168, lit_255, lit_336, lit_400, lts, bd0_s, bd1_s, bd2_s, bd3_s, bd4_s, bd5_s, bd6_s, bd7_s, nI_add, pk_mul, nI_sub, nI_clamp, nI_leI, nI_ltI, nI_eq, ckI_ok, if_pos, if_neg, Nat.not_lt_zero, if_false, if_true]
theorem X0_balanceAt {C i : Nat} (hi : i < C) (hC : C ≤ 12) (nu : Nat → Int32) : fX0_balanceAt (nI C) nu (nI i) = some (nu i) := by
  simp (disch := omega) only [fX0_balanceAt, X0_place hi hC, bd1_s, lit_0, lit_1, lit_2, lit_3, lit_4, lit_5, lit_6, lit_7, lit_8, lit_9, lit_10, lit_11, lit_12, lit_13, lit_14, lit_15, lit_16, lit_17, lit_18, lit_19, lit_20, lit_21, lit_22, lit_23, lit_24, lit_30, lit_48, lit_57, lit_60, lit_80, lit_96, lit_108, lit_126, lit_168, lit_255, lit_336, lit_400, lts, bd0_s, bd1_s, bd2_s, bd3_s, bd4_s, bd5_s, bd6_s, bd7_s, nI_add, pk_mul, nI_sub, nI_clamp, nI_leI, nI_ltI, nI_eq, ckI_ok, if_pos, if_neg, Nat.not_lt_zero, if_false, if_true]
theorem X0_movedAt {C i : Nat} (hi : i < C) (hC : C ≤ 12) (nu : Nat → Int32) : fX0_movedAt (nI C) nu (nI i) = some (nu i) := by
  simp (disch := omega) only [fX0_movedAt, X0_place hi hC, bd1_s, lit_0, lit_1, lit_2, lit_3, lit_4, lit_5, lit_6, lit_7, lit_8, lit_9, lit_10, lit_11, lit_12, lit_13, lit_14, lit_15, lit_16, lit_17, lit_18, lit_19, lit_20, lit_21, lit_22, lit_23, lit_24, lit_30, lit_48, lit_57, lit_60, lit_80, lit_96, lit_108, lit_126, lit_168, lit_255, lit_336, lit_400, lts, bd0_s, bd1_s, bd2_s, bd3_s, bd4_s, bd5_s, bd6_s, bd7_s, nI_add, pk_mul, nI_sub, nI_clamp, nI_leI, nI_ltI, nI_eq, ckI_ok, if_pos, if_neg, Nat.not_lt_zero, if_false, if_true]
theorem X0_countAt {C i : Nat} (hi : i < C) (hC : C ≤ 12) (nu : Nat → Int64) : fX0_countAt (nI C) nu (nI i) = some (nu i) := by
  simp (disch := omega) only [fX0_countAt, X0_place hi hC, bd1_s, lit_0, lit_1, lit_2, lit_3, lit_4, lit_5, lit_6, lit_7, lit_8, lit_9, lit_10, lit_11, lit_12, lit_13, lit_14, lit_15, lit_16, lit_17, lit_18, lit_19, lit_20, lit_21, lit_22, lit_23, lit_24, lit_30, lit_48, lit_57, lit_60, lit_80, lit_96, lit_108, lit_126, lit_168, lit_255, lit_336, lit_400, lts, bd0_s, bd1_s, bd2_s, bd3_s, bd4_s, bd5_s, bd6_s, bd7_s, nI_add, pk_mul, nI_sub, nI_clamp, nI_leI, nI_ltI, nI_eq, ckI_ok, if_pos, if_neg, Nat.not_lt_zero, if_false, if_true]
theorem X0_add {C i : Nat} (hi : i < C) (hC : C ≤ 12) (ba : Nat → Int32) (a : Int32) : fX0_add (nI C) ba (nI i) a = some (upd ba i (ba i + a)) := by
  simp (disch := omega) only [fX0_add, X0_place hi hC, bd1_s, lit_0, lit_1, lit_2, lit_3, lit_4, lit_5, lit_6, lit_7, lit_8, lit_9, lit_10, lit_11, lit_12, lit_13, lit_14, lit_15, lit_16, lit_17, lit_18, lit_19, lit_20, lit_21, lit_22, lit_23, lit_24, lit_30, lit_48, lit_57, lit_60, lit_80, lit_96, lit_108, lit_126, lit_168, lit_255, lit_336, lit_400, lts, bd0_s, bd1_s, bd2_s, bd3_s, bd4_s, bd5_s, bd6_s, bd7_s, nI_add, pk_mul, nI_sub, nI_clamp, nI_leI, nI_ltI, nI_eq, ckI_ok, if_pos, if_neg, Nat.not_lt_zero, if_false, if_true]
theorem X0_addN (C : Int32) (ba : Nat → Int32) (a : Int32) : fX0_add C ba (-1) a = some ba := by
  simp only [fX0_add, X0_noplace, bd1_s, if_pos]
theorem X0_addCount {C i : Nat} (hi : i < C) (hC : C ≤ 12) (co : Nat → Int64) (a : Int64) : fX0_addCount (nI C) co (nI i) a = some (vp_updL co i (co i + a)) := by
  simp (disch := omega) only [fX0_addCount, X0_place hi hC, bd1_s, lit_0, lit_1, lit_2, lit_3, lit_4, lit_5, lit_6, lit_7, lit_8, lit_9, lit_10, lit_11, lit_12, lit_13, lit_14, lit_15, lit_16, lit_17, lit_18, lit_19, lit_20, lit_21, lit_22, lit_23, lit_24, lit_30, lit_48, lit_57, lit_60, lit_80, lit_96, lit_108, lit_126, lit_168, lit_255, lit_336, lit_400, lts, bd0_s, bd1_s, bd2_s, bd3_s, bd4_s, bd5_s, bd6_s, bd7_s, nI_add, pk_mul, nI_sub, nI_clamp, nI_leI, nI_ltI, nI_eq, ckI_ok, if_pos, if_neg, Nat.not_lt_zero, if_false, if_true]
theorem X0_move {C i : Nat} (hi : i < C) (hC : C ≤ 12) (mo : Nat → Int32) (d : Int32) : fX0_move (nI C) mo (nI i) d = some (upd mo i d) := by
  simp (disch := omega) only [fX0_move, X0_place hi hC, bd1_s, lit_0, lit_1, lit_2, lit_3, lit_4, lit_5, lit_6, lit_7, lit_8, lit_9, lit_10, lit_11, lit_12, lit_13, lit_14, lit_15, lit_16, lit_17, lit_18, lit_19, lit_20, lit_21, lit_22, lit_23, lit_24, lit_30, lit_48, lit_57, lit_60, lit_80, lit_96, lit_108, lit_126, lit_168, lit_255, lit_336, lit_400, lts, bd0_s, bd1_s, bd2_s, bd3_s, bd4_s, bd5_s, bd6_s, bd7_s, nI_add, pk_mul, nI_sub, nI_clamp, nI_leI, nI_ltI, nI_eq, ckI_ok, if_pos, if_neg, Nat.not_lt_zero, if_false, if_true]
theorem X0_moveN (C : Int32) (mo : Nat → Int32) (d : Int32) : fX0_move C mo (-1) d = some mo := by
  simp only [fX0_move, X0_noplace, bd1_s, if_pos]
theorem X0_find_La {C k : Nat} (hC : C ≤ 12) (hk : k < C) (nu : Nat → Int32) (cl : Int32) (h : nu k = cl) : ∀ (n i : Nat), i ≤ k → k - i < n → (∀ j, i ≤ j → j < k → ¬ nu j = cl) → fX0_find_L2 (nI C) nu cl n (nI i) = some (.inl (nI k)) := by
  intro n
  induction n with
  | zero => intro i h1 h2; omega
  | succ n ih =>
    intro i h1 h2 h3
    rw [fX0_find_L2]
    simp (disch := omega) only [lit_0, lit_1, lit_2, lit_3, lit_4, lit_5, lit_6, lit_7, lit_8, lit_9, lit_10, lit_11, lit_12, lit_13, lit_14, lit_15, lit_16, lit_17, lit_18, lit_19, lit_20, lit_21, lit_22, lit_23, lit_24, lit_30, lit_48, lit_57, lit_60, lit_80, lit_96, lit_108, lit_126, lit_168, lit_255, lit_336, lit_400, lts, bd0_s, bd1_s, bd2_s, bd3_s, bd4_s, bd5_s, bd6_s, bd7_s, nI_add, pk_mul, nI_sub, nI_clamp, nI_leI, nI_ltI, nI_eq, ckI_ok, if_pos, if_neg, Nat.not_lt_zero, if_false, if_true]
    by_cases e : i = k
    · subst e; rw [if_pos h]
    · rw [if_neg (h3 i (Nat.le_refl i) (by omega))]
      exact ih (i + 1) (by omega) (by omega) (fun j hj => h3 j (by omega))
theorem X0_find_Lb {C : Nat} (hC : C ≤ 12) (nu : Nat → Int32) (cl : Int32) : ∀ (n i : Nat), i ≤ C → C - i < n → (∀ j, i ≤ j → j < C → ¬ nu j = cl) → fX0_find_L2 (nI C) nu cl n (nI i) = some (.inr ()) := by
  intro n
  induction n with
  | zero => intro i h1 h2; omega
  | succ n ih =>
    intro i h1 h2 h3
    rw [fX0_find_L2]
    by_cases e : i = C
    · subst e
      simp (disch := omega) only [lit_0, lit_1, lit_2, lit_3, lit_4, lit_5, lit_6, lit_7, lit_8, lit_9, lit_10, lit_11, lit_12, lit_13, lit_14, lit_15, lit_16, lit_17, lit_18, lit_19, lit_20, lit_21, lit_22, lit_23, lit_24, lit_30, lit_48, lit_57, lit_60, lit_80, lit_96, lit_108, lit_126, lit_168, lit_255, lit_336, lit_400, lts, bd0_s, bd1_s, bd2_s, bd3_s, bd4_s, bd5_s, bd6_s, bd7_s, nI_add, pk_mul, nI_sub, nI_clamp, nI_leI, nI_ltI, nI_eq, ckI_ok, if_pos, if_neg, Nat.not_lt_zero, if_false, if_true]
    · simp (disch := omega) only [lit_0, lit_1, lit_2, lit_3, lit_4, lit_5, lit_6, lit_7, lit_8, lit_9, lit_10, lit_11, lit_12, lit_13, lit_14, lit_15, lit_16, lit_17, lit_18, lit_19, lit_20, lit_21, lit_22, lit_23, lit_24, lit_30, lit_48, lit_57, lit_60, lit_80, lit_96, lit_108, lit_126, lit_168, lit_255, lit_336, lit_400, lts, bd0_s, bd1_s, bd2_s, bd3_s, bd4_s, bd5_s, bd6_s, bd7_s, nI_add, pk_mul, nI_sub, nI_clamp, nI_leI, nI_ltI, nI_eq, ckI_ok, if_pos, if_neg, Nat.not_lt_zero, if_false, if_true]
      rw [if_neg (h3 i (Nat.le_refl i) (by omega))]
      exact ih (i + 1) (by omega) (by omega) (fun j hj => h3 j (by omega))
theorem X0_find_i {C k : Nat} (hC : C ≤ 12) (hk : k < C) {nu : Nat → Int32} {cl : Int32} (h : nu k = cl) (h3 : ∀ j, j < k → ¬ nu j = cl) : fX0_find (nI C) nu cl = some (nI k) := by
  unfold fX0_find
  have e := X0_find_La hC hk nu cl h 2147483648 0 (Nat.zero_le _) (by omega) (fun j _ => h3 j)
  rw [nI_0] at e
  rw [e]; rfl
theorem X0_find_n {C : Nat} (hC : C ≤ 12) {nu : Nat → Int32} {cl : Int32} (h3 : ∀ j, j < C → ¬ nu j = cl) : fX0_find (nI C) nu cl = some (-1) := by
  unfold fX0_find
  have e := X0_find_Lb hC nu cl 2147483648 0 (Nat.zero_le _) (by omega) (fun j _ => h3 j)
  rw [nI_0] at e
  rw [e]; rfl
/-! Rows -/
theorem X4_get {R i k : Nat} (hi : i < R) (hR : R ≤ 15) (hk : k < 4) (ce : Nat → Int32) : fX4_get (nI R) ce (nI i) (nI k) = some (ce (i * 4 + k)) := by
  simp (disch := omega) only [fX4_get, lit_0, lit_1, lit_2, lit_3, lit_4, lit_5, lit_6, lit_7, lit_8, lit_9, lit_10, lit_11, lit_12, lit_13, lit_14, lit_15, lit_16, lit_17, lit_18, lit_19, lit_20, lit_21, lit_22, lit_23, lit_24, lit_30, lit_48, lit_57, lit_60, lit_80, lit_96, lit_108, lit_126, lit_168, lit_255, lit_336, lit_400, lts, bd0_s, bd1_s, bd2_s, bd3_s, bd4_s, bd5_s, bd6_s, bd7_s, nI_add, pk_mul, nI_sub, nI_clamp, nI_leI, nI_ltI, nI_eq, ckI_ok, if_pos, if_neg, Nat.not_lt_zero, if_false, if_true]
theorem X4_set {R i k : Nat} (hi : i < R) (hR : R ≤ 15) (hk : k < 4) (ce : Nat → Int32) (v : Int32) : fX4_set (nI R) ce (nI i) (nI k) v = some (upd ce (i * 4 + k) v) := by
  simp (disch := omega) only [fX4_set, lit_0, lit_1, lit_2, lit_3, lit_4, lit_5, lit_6, lit_7, lit_8, lit_9, lit_10, lit_11, lit_12, lit_13, lit_14, lit_15, lit_16, lit_17, lit_18, lit_19, lit_20, lit_21, lit_22, lit_23, lit_24, lit_30, lit_48, lit_57, lit_60, lit_80, lit_96, lit_108, lit_126, lit_168, lit_255, lit_336, lit_400, lts, bd0_s, bd1_s, bd2_s, bd3_s, bd4_s, bd5_s, bd6_s, bd7_s, nI_add, pk_mul, nI_sub, nI_clamp, nI_leI, nI_ltI, nI_eq, ckI_ok, if_pos, if_neg, Nat.not_lt_zero, if_false, if_true]
theorem X4_find_La {R k : Nat} (hR : R ≤ 15) (hk : k < R) (ce : Nat → Int32) (cl : Int32) (h : ce (k * 4) = cl) : ∀ (n i : Nat), i ≤ k → k - i < n → (∀ j, i ≤ j → j < k → ¬ ce (j * 4) = cl) → fX4_find_L2 (nI R) ce cl n (nI i) = some (.inl (nI k)) := by
  intro n
  induction n with
  | zero => intro i h1 h2; omega
  | succ n ih =>
    intro i h1 h2 h3
    rw [fX4_find_L2]
    have g := X4_get (R := R) (i := i) (k := 0) (by omega) hR (by omega) ce
    simp (disch := omega) only [lit_0, lit_1, lit_2, lit_3, lit_4, lit_5, lit_6, lit_7, lit_8, lit_9, lit_10, lit_11, lit_12, lit_13, lit_14, lit_15, lit_16, lit_17, lit_18, lit_19, lit_20, lit_21, lit_22, lit_23, lit_24, lit_30, lit_48, lit_57, lit_60, lit_80, lit_96, lit_108, lit_126, lit_168, lit_255, lit_336, lit_400, lts, bd0_s, bd1_s, bd2_s, bd3_s, bd4_s, bd5_s, bd6_s, bd7_s, nI_add, pk_mul, nI_sub, nI_clamp, nI_leI, nI_ltI, nI_eq, ckI_ok, if_pos, if_neg, Nat.not_lt_zero, if_false, if_true, g, Nat.add_zero]
    by_cases e : i = k
    · subst e; rw [if_pos h]
    · rw [if_neg (h3 i (Nat.le_refl i) (by omega))]
      exact ih (i + 1) (by omega) (by omega) (fun j hj => h3 j (by omega))
theorem X4_find_Lb {R : Nat} (hR : R ≤ 15) (ce : Nat → Int32) (cl : Int32) : ∀ (n i : Nat), i ≤ R → R - i < n → (∀ j, i ≤ j → j < R → ¬ ce (j * 4) = cl) → fX4_find_L2 (nI R) ce cl n (nI i) = some (.inr ()) := by
  intro n
  induction n with
  | zero => intro i h1 h2; omega
  | succ n ih =>
    intro i h1 h2 h3
    rw [fX4_find_L2]
    by_cases e : i = R
    · subst e
      simp (disch := omega) only [lit_0, lit_1, lit_2, lit_3, lit_4, lit_5, lit_6, lit_7, lit_8, lit_9, lit_10, lit_11, lit_12, lit_13, lit_14, lit_15, lit_16, lit_17, lit_18, lit_19, lit_20, lit_21, lit_22, lit_23, lit_24, lit_30, lit_48, lit_57, lit_60, lit_80, lit_96, lit_108, lit_126, lit_168, lit_255, lit_336, lit_400, lts, bd0_s, bd1_s, bd2_s, bd3_s, bd4_s, bd5_s, bd6_s, bd7_s, nI_add, pk_mul, nI_sub, nI_clamp, nI_leI, nI_ltI, nI_eq, ckI_ok, if_pos, if_neg, Nat.not_lt_zero, if_false, if_true]
    · have g := X4_get (R := R) (i := i) (k := 0) (by omega) hR (by omega) ce
      simp (disch := omega) only [lit_0, lit_1, lit_2, lit_3, lit_4, lit_5, lit_6, lit_7, lit_8, lit_9, lit_10, lit_11, lit_12, lit_13, lit_14, lit_15, lit_16, lit_17, lit_18, lit_19, lit_20, lit_21, lit_22, lit_23, lit_24, lit_30, lit_48, lit_57, lit_60, lit_80, lit_96, lit_108, lit_126, lit_168, lit_255, lit_336, lit_400, lts, bd0_s, bd1_s, bd2_s, bd3_s, bd4_s, bd5_s, bd6_s, bd7_s, nI_add, pk_mul, nI_sub, nI_clamp, nI_leI, nI_ltI, nI_eq, ckI_ok, if_pos, if_neg, Nat.not_lt_zero, if_false, if_true, g, Nat.add_zero]
      rw [if_neg (h3 i (Nat.le_refl i) (by omega))]
      exact ih (i + 1) (by omega) (by omega) (fun j hj => h3 j (by omega))
theorem X4_find_i {R k : Nat} (hR : R ≤ 15) (hk : k < R) {ce : Nat → Int32} {cl : Int32} (h : ce (k * 4) = cl) (h3 : ∀ j, j < k → ¬ ce (j * 4) = cl) : fX4_find (nI R) ce cl = some (nI k) := by
  unfold fX4_find
  have e := X4_find_La hR hk ce cl h 2147483648 0 (Nat.zero_le _) (by omega) (fun j _ => h3 j)
  rw [nI_0] at e
  rw [e]; rfl
theorem X4_find_n {R : Nat} (hR : R ≤ 15) {ce : Nat → Int32} {cl : Int32} (h3 : ∀ j, j < R → ¬ ce (j * 4) = cl) : fX4_find (nI R) ce cl = some (-1) := by
  unfold fX4_find
  have e := X4_find_Lb hR ce cl 2147483648 0 (Nat.zero_le _) (by omega) (fun j _ => h3 j)
  rw [nI_0] at e
  rw [e]; rfl
/-- a sum over the first places that a test picks -/
def sumI (t : Nat → Bool) (a : Nat → Int32) : Nat → Int32
  | 0 => 0
  | n + 1 => if t n then sumI t a n + a n else sumI t a n
def sumL (a : Nat → Int64) : Nat → Int64
  | 0 => 0
  | n + 1 => sumL a n + a n
theorem sumI_cong {t u : Nat → Bool} {a b : Nat → Int32} : ∀ (n : Nat), (∀ i, i < n → t i = u i ∧ (t i = true → a i = b i)) → sumI t a n = sumI u b n
  | 0, _ => rfl
  | n + 1, h => by
    have e := sumI_cong n (fun i hi => h i (by omega))
    obtain ⟨h1, h2⟩ := h n (by omega)
    unfold sumI
    rw [e, ← h1]
    by_cases c : t n = true
    · rw [if_pos c, if_pos c, h2 c]
    · rw [if_neg c, if_neg c]
theorem sumL_cong {a b : Nat → Int64} : ∀ (n : Nat), (∀ i, i < n → a i = b i) → sumL a n = sumL b n
  | 0, _ => rfl
  | n + 1, h => by
    unfold sumL
    rw [sumL_cong n (fun i hi => h i (by omega)), h n (by omega)]
theorem X4_sumOf_L {R k : Nat} (hR : R ≤ 15) (hk : k < 4) (ce : Nat → Int32) (cl : Int32) : ∀ (n i : Nat), i ≤ R → R - i < n → fX4_sumOf_L5 (nI R) ce cl (nI k) n (sumI (fun j => decide (ce (j * 4 + 1) = cl)) (fun j => ce (j * 4 + k)) i) (nI i) = some (sumI (fun j => decide (ce (j * 4 + 1) = cl)) (fun j => ce (j * 4 + k)) R) := by
  intro n
  induction n with
  | zero => intro i h1 h2; omega
  | succ n ih =>
    intro i h1 h2
    rw [fX4_sumOf_L5]
    by_cases e : i = R
    · subst e
      simp (disch := omega) only [lit_0, lit_1, lit_2, lit_3, lit_4, lit_5, lit_6, lit_7, lit_8, lit_9, lit_10, lit_11, lit_12, lit_13, lit_14, lit_15, lit_16, lit_17, lit_18, lit_19, lit_20, lit_21, lit_22, lit_23, lit_24, lit_30, lit_48, lit_57, lit_60, lit_80, lit_96, lit_108, lit_126, lit_168, lit_255, lit_336, lit_400, lts, bd0_s, bd1_s, bd2_s, bd3_s, bd4_s, bd5_s, bd6_s, bd7_s, nI_add, pk_mul, nI_sub, nI_clamp, nI_leI, nI_ltI, nI_eq, ckI_ok, if_pos, if_neg, Nat.not_lt_zero, if_false, if_true]
    · have g := X4_get (R := R) (i := i) (k := 1) (by omega) hR (by omega) ce
      have g2 := X4_get (R := R) (i := i) (k := k) (by omega) hR hk ce
      have h3 := ih (i + 1) (by omega) (by omega)
      simp (disch := omega) only [lit_0, lit_1, lit_2, lit_3, lit_4, lit_5, lit_6, lit_7, lit_8, lit_9, lit_10, lit_11, lit_12, lit_13, lit_14, lit_15, lit_16, lit_17, lit_18, lit_19, lit_20, lit_21, lit_22, lit_23, lit_24, lit_30, lit_48, lit_57, lit_60, lit_80, lit_96, lit_108, lit_126, lit_168, lit_255, lit_336, lit_400, lts, bd0_s, bd1_s, bd2_s, bd3_s, bd4_s, bd5_s, bd6_s, bd7_s, nI_add, pk_mul, nI_sub, nI_clamp, nI_leI, nI_ltI, nI_eq, ckI_ok, if_pos, if_neg, Nat.not_lt_zero, if_false, if_true, g, g2]
      rw [sumI] at h3
      by_cases c : ce (i * 4 + 1) = cl
      · rw [if_pos c]
        rw [if_pos (by simpa using c)] at h3
        exact h3
      · rw [if_neg c]
        rw [if_neg (by simpa using c)] at h3
        exact h3
theorem X4_sumOf {R k : Nat} (hR : R ≤ 15) (hk : k < 4) (ce : Nat → Int32) (cl : Int32) : fX4_sumOf (nI R) ce cl (nI k) = some (sumI (fun j => decide (ce (j * 4 + 1) = cl)) (fun j => ce (j * 4 + k)) R) := by
  unfold fX4_sumOf
  have e := X4_sumOf_L hR hk ce cl 2147483648 0 (Nat.zero_le _) (by omega)
  rw [nI_0] at e
  rw [show (sumI (fun j => decide (ce (j * 4 + 1) = cl)) (fun j => ce (j * 4 + k)) 0) = 0 from rfl] at e
  rw [e]; rfl
theorem X4_countOf_L {R : Nat} (hR : R ≤ 15) (ce : Nat → Int32) (cl : Int32) : ∀ (n i : Nat), i ≤ R → R - i < n → fX4_countOf_L4 (nI R) ce cl n (sumI (fun j => decide (ce (j * 4 + 1) = cl)) (fun _ => 1) i) (nI i) = some (sumI (fun j => decide (ce (j * 4 + 1) = cl)) (fun _ => 1) R) := by
  intro n
  induction n with
  | zero => intro i h1 h2; omega
  | succ n ih =>
    intro i h1 h2
    rw [fX4_countOf_L4]
    by_cases e : i = R
    · subst e
      simp (disch := omega) only [lit_0, lit_1, lit_2, lit_3, lit_4, lit_5, lit_6, lit_7, lit_8, lit_9, lit_10, lit_11, lit_12, lit_13, lit_14, lit_15, lit_16, lit_17, lit_18, lit_19, lit_20, lit_21, lit_22, lit_23, lit_24, lit_30, lit_48, lit_57, lit_60, lit_80, lit_96, lit_108, lit_126, lit_168, lit_255, lit_336, lit_400, lts, bd0_s, bd1_s, bd2_s, bd3_s, bd4_s, bd5_s, bd6_s, bd7_s, nI_add, pk_mul, nI_sub, nI_clamp, nI_leI, nI_ltI, nI_eq, ckI_ok, if_pos, if_neg, Nat.not_lt_zero, if_false, if_true]
    · have g := X4_get (R := R) (i := i) (k := 1) (by omega) hR (by omega) ce
      have h3 := ih (i + 1) (by omega) (by omega)
      rw [← nI_1] at h3
      have hle : ¬ nI R ≤ nI i := nI_ge (by omega) (by omega)
      rw [if_neg hle, show (1 : Int32) = nI 1 from rfl, g, bd1_s]
      rw [sumI] at h3
      by_cases c : ce (i * 4 + 1) = cl
      · rw [if_pos c]
        rw [if_pos (by simpa using c)] at h3
        exact h3
      · rw [if_neg c]
        rw [if_neg (by simpa using c)] at h3
        exact h3
theorem X4_countOf {R : Nat} (hR : R ≤ 15) (ce : Nat → Int32) (cl : Int32) : fX4_countOf (nI R) ce cl = some (sumI (fun j => decide (ce (j * 4 + 1) = cl)) (fun _ => 1) R) := by
  unfold fX4_countOf
  have e := X4_countOf_L hR ce cl 2147483648 0 (Nat.zero_le _) (by omega)
  rw [nI_0] at e
  rw [show (sumI (fun j => decide (ce (j * 4 + 1) = cl)) (fun _ => 1) 0) = 0 from rfl] at e
  rw [e]; rfl
theorem X4_sumOfAll_L {R k : Nat} (hR : R ≤ 15) (hk : k < 4) (ce : Nat → Int32) : ∀ (n i : Nat), i ≤ R → R - i < n → fX4_sumOfAll_L5 (nI R) ce (nI k) n (sumL (fun j => (ce (j * 4 + k)).toInt64) i) (nI i) = some (sumL (fun j => (ce (j * 4 + k)).toInt64) R) := by
  intro n
  induction n with
  | zero => intro i h1 h2; omega
  | succ n ih =>
    intro i h1 h2
    rw [fX4_sumOfAll_L5]
    by_cases e : i = R
    · subst e
      simp (disch := omega) only [lit_0, lit_1, lit_2, lit_3, lit_4, lit_5, lit_6, lit_7, lit_8, lit_9, lit_10, lit_11, lit_12, lit_13, lit_14, lit_15, lit_16, lit_17, lit_18, lit_19, lit_20, lit_21, lit_22, lit_23, lit_24, lit_30, lit_48, lit_57, lit_60, lit_80, lit_96, lit_108, lit_126, lit_168, lit_255, lit_336, lit_400, lts, bd0_s, bd1_s, bd2_s, bd3_s, bd4_s, bd5_s, bd6_s, bd7_s, nI_add, pk_mul, nI_sub, nI_clamp, nI_leI, nI_ltI, nI_eq, ckI_ok, if_pos, if_neg, Nat.not_lt_zero, if_false, if_true]
    · have g := X4_get (R := R) (i := i) (k := k) (by omega) hR hk ce
      have h3 := ih (i + 1) (by omega) (by omega)
      simp (disch := omega) only [lit_0, lit_1, lit_2, lit_3, lit_4, lit_5, lit_6, lit_7, lit_8, lit_9, lit_10, lit_11, lit_12, lit_13, lit_14, lit_15, lit_16, lit_17, lit_18, lit_19, lit_20, lit_21, lit_22, lit_23, lit_24, lit_30, lit_48, lit_57, lit_60, lit_80, lit_96, lit_108, lit_126, lit_168, lit_255, lit_336, lit_400, lts, bd0_s, bd1_s, bd2_s, bd3_s, bd4_s, bd5_s, bd6_s, bd7_s, nI_add, pk_mul, nI_sub, nI_clamp, nI_leI, nI_ltI, nI_eq, ckI_ok, if_pos, if_neg, Nat.not_lt_zero, if_false, if_true, g]
      exact h3
theorem X4_sumOfAll {R k : Nat} (hR : R ≤ 15) (hk : k < 4) (ce : Nat → Int32) : fX4_sumOfAll (nI R) ce (nI k) = some (sumL (fun j => (ce (j * 4 + k)).toInt64) R) := by
  unfold fX4_sumOfAll
  have e := X4_sumOfAll_L hR hk ce 2147483648 0 (Nat.zero_le _) (by omega)
  rw [nI_0] at e
  rw [show (sumL (fun j => (ce (j * 4 + k)).toInt64) 0) = 0 from rfl] at e
  rw [e]; rfl
theorem upd_s (f : Nat → Int32) (k : Nat) (x : Int32) : upd f k x k = x := pk_us
theorem upd_n {f : Nat → Int32} {k j : Nat} {x : Int32} (h : j ≠ k) : upd f k x j = f j := pk_un h
theorem X4_append {R : Nat} (hR : R < 15) (la : Int32) (ce : Nat → Int32) (a b c : Int32) : fX4_append (nI R) la ce a b c = some (la + 1, nI (R + 1), la + 1, upd (upd (upd (upd ce (R * 4) (la + 1)) (R * 4 + 1) a) (R * 4 + 2) b) (R * 4 + 3) c) := by
  have g := fun (ce : Nat → Int32) (k : Nat) (hk : k < 4) (v : Int32) => X4_set (R := R + 1) (i := R) (k := k) (by omega) (by omega) hk ce v
  have g0 := fun ce v => g ce 0 (by omega) v
  have g1 := fun ce v => g ce 1 (by omega) v
  have g2 := fun ce v => g ce 2 (by omega) v
  have g3 := fun ce v => g ce 3 (by omega) v
  unfold fX4_append
  rw [if_pos (show nI R < 15 from nI_lt (b := 15) hR (by omega)), lts, lts, nI_1]
  rw [show (0 : Int32) = nI 0 from rfl, show (2 : Int32) = nI 2 from rfl, show (3 : Int32) = nI 3 from rfl, g0, bd1_s]
  rw [show fX4_set (nI (R + 1)) (upd ce (R * 4 + 0) (la + 1)) (nI R) 1 a = _ from g1 _ a, bd1_s, g2, bd1_s, g3, bd1_s]
  rfl
theorem X4_appendF {R : Nat} (hR : R = 15) (la : Int32) (ce : Nat → Int32) (a b c : Int32) : fX4_append (nI R) la ce a b c = some (-4, nI R, la, ce) := by
  subst hR
  unfold fX4_append
  rw [if_neg (by decide)]
/-- rows from the place g on go one place down -/
theorem X4_rm_in {R g : Nat} (hR : R ≤ 15) (hg : g + 1 < R) : ∀ (n k : Nat) (ce : Nat → Int32), k ≤ 4 → 4 - k < n → ∃ ce', fX4_remove_L27 (nI R) (nI g) n ce (nI k) = some ce' ∧ ∀ j, ce' j = if g * 4 + k ≤ j ∧ j < g * 4 + 4 then ce (j + 4) else ce j := by
  intro n
  induction n with
  | zero => intro k ce h1 h2; omega
  | succ n ih =>
    intro k ce h1 h2
    rw [fX4_remove_L27]
    by_cases e : k = 4
    · subst e
      refine ⟨ce, ?_, fun j => ?_⟩
      · rw [if_pos (show (4 : Int32) ≤ nI 4 by decide)]
      · rw [if_neg (by omega)]
    · have g1 := X4_get (R := R) (i := g + 1) (k := k) (by omega) hR (by omega) ce
      have g2 := X4_set (R := R) (i := g) (k := k) (by omega) hR (by omega) ce (ce ((g + 1) * 4 + k))
      obtain ⟨ce', h3, h4⟩ := ih (k + 1) (upd ce (g * 4 + k) (ce ((g + 1) * 4 + k))) (by omega) (by omega)
      refine ⟨ce', ?_, fun j => ?_⟩
      · rw [if_neg (show ¬ (4 : Int32) ≤ nI k from nI_ge (b := 4) (by omega) (by omega)), nI_1, g1, bd1_s, g2, bd1_s, nI_1]
        exact h3
      · rw [h4 j]
        by_cases c1 : j = g * 4 + k
        · subst c1
          rw [if_neg (by omega), if_pos (by omega), upd_s]
          congr 1; omega
        · by_cases c2 : g * 4 + (k + 1) ≤ j ∧ j < g * 4 + 4
          · rw [if_pos c2, if_pos (by omega), upd_n (by omega)]
          · rw [if_neg c2, if_neg (by omega), upd_n c1]
theorem X4_rm_L {R : Nat} (hR : R ≤ 15) : ∀ (n g : Nat) (ce : Nat → Int32), g < R → R - g < n → ∃ ce', fX4_remove_L15 (nI R) n ce (nI g) = some ce' ∧ ∀ j, j < (R - 1) * 4 → ce' j = if g * 4 ≤ j then ce (j + 4) else ce j := by
  intro n
  induction n with
  | zero => intro g ce h1 h2; omega
  | succ n ih =>
    intro g ce h1 h2
    rw [fX4_remove_L15]
    by_cases e : g + 1 = R
    · refine ⟨ce, ?_, fun j hj => ?_⟩
      · rw [nI_1, if_pos (nI_le (by omega) (by omega))]
      · rw [if_neg (by omega)]
    · obtain ⟨c1, h3, h4⟩ := X4_rm_in hR (g := g) (by omega) 2147483648 0 ce (by omega) (by omega)
      obtain ⟨c2, h5, h6⟩ := ih (g + 1) c1 (by omega) (by omega)
      refine ⟨c2, ?_, fun j hj => ?_⟩
      · rw [nI_1, if_neg (nI_ge (by omega) (by omega)), show (0 : Int32) = nI 0 from rfl, h3, bd1_s]
        exact h5
      · rw [h6 j hj]
        by_cases q : (g + 1) * 4 ≤ j
        · rw [if_pos q, if_pos (by omega), h4, if_neg (by omega)]
        · rw [if_neg q, h4]
          by_cases q2 : g * 4 ≤ j
          · rw [if_pos (by omega), if_pos q2]
          · rw [if_neg (by omega), if_neg q2]
theorem X4_remove {R g : Nat} (hR : R ≤ 15) (hg : g < R) (ce : Nat → Int32) : ∃ ce', fX4_remove (nI R) ce (nI g) = some (nI (R - 1), ce') ∧ ∀ j, j < (R - 1) * 4 → ce' j = if g * 4 ≤ j then ce (j + 4) else ce j := by
  obtain ⟨ce', h1, h2⟩ := X4_rm_L hR 2147483648 g ce hg (by omega)
  refine ⟨ce', ?_, h2⟩
  unfold fX4_remove
  rw [if_neg (nI_pos (by omega)), if_pos (nI_lt hg (by omega)), h1, bd1_s, lts]
  rw [show nI R - 1 = nI (R - 1) from nI_sub (a := R) (b := 1) (by omega)]
