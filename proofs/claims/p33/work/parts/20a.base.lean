theorem lit_0 : (0 : Int32) = nI 0 := rfl
theorem cl_0 : (0 : Int32).toNatClampNeg = 0 := by decide
theorem lit_1 : (1 : Int32) = nI 1 := rfl
theorem cl_1 : (1 : Int32).toNatClampNeg = 1 := by decide
theorem lit_2 : (2 : Int32) = nI 2 := rfl
theorem cl_2 : (2 : Int32).toNatClampNeg = 2 := by decide
theorem lit_3 : (3 : Int32) = nI 3 := rfl
theorem cl_3 : (3 : Int32).toNatClampNeg = 3 := by decide
theorem lit_4 : (4 : Int32) = nI 4 := rfl
theorem cl_4 : (4 : Int32).toNatClampNeg = 4 := by decide
theorem lit_5 : (5 : Int32) = nI 5 := rfl
theorem cl_5 : (5 : Int32).toNatClampNeg = 5 := by decide
theorem lit_6 : (6 : Int32) = nI 6 := rfl
theorem cl_6 : (6 : Int32).toNatClampNeg = 6 := by decide
theorem lit_7 : (7 : Int32) = nI 7 := rfl
theorem cl_7 : (7 : Int32).toNatClampNeg = 7 := by decide
theorem lit_8 : (8 : Int32) = nI 8 := rfl
theorem cl_8 : (8 : Int32).toNatClampNeg = 8 := by decide
theorem lit_9 : (9 : Int32) = nI 9 := rfl
theorem cl_9 : (9 : Int32).toNatClampNeg = 9 := by decide
theorem lit_10 : (10 : Int32) = nI 10 := rfl
theorem cl_10 : (10 : Int32).toNatClampNeg = 10 := by decide
theorem lit_11 : (11 : Int32) = nI 11 := rfl
theorem cl_11 : (11 : Int32).toNatClampNeg = 11 := by decide
theorem lit_12 : (12 : Int32) = nI 12 := rfl
theorem cl_12 : (12 : Int32).toNatClampNeg = 12 := by decide
theorem lit_13 : (13 : Int32) = nI 13 := rfl
theorem cl_13 : (13 : Int32).toNatClampNeg = 13 := by decide
theorem lit_14 : (14 : Int32) = nI 14 := rfl
theorem cl_14 : (14 : Int32).toNatClampNeg = 14 := by decide
theorem lit_15 : (15 : Int32) = nI 15 := rfl
theorem cl_15 : (15 : Int32).toNatClampNeg = 15 := by decide
theorem lit_16 : (16 : Int32) = nI 16 := rfl
theorem cl_16 : (16 : Int32).toNatClampNeg = 16 := by decide
theorem lit_17 : (17 : Int32) = nI 17 := rfl
theorem cl_17 : (17 : Int32).toNatClampNeg = 17 := by decide
theorem lit_18 : (18 : Int32) = nI 18 := rfl
theorem cl_18 : (18 : Int32).toNatClampNeg = 18 := by decide
theorem lit_19 : (19 : Int32) = nI 19 := rfl
theorem cl_19 : (19 : Int32).toNatClampNeg = 19 := by decide
theorem lit_20 : (20 : Int32) = nI 20 := rfl
theorem cl_20 : (20 : Int32).toNatClampNeg = 20 := by decide
theorem lit_21 : (21 : Int32) = nI 21 := rfl
theorem cl_21 : (21 : Int32).toNatClampNeg = 21 := by decide
theorem lit_22 : (22 : Int32) = nI 22 := rfl
theorem cl_22 : (22 : Int32).toNatClampNeg = 22 := by decide
theorem lit_23 : (23 : Int32) = nI 23 := rfl
theorem cl_23 : (23 : Int32).toNatClampNeg = 23 := by decide
theorem lit_24 : (24 : Int32) = nI 24 := rfl
theorem cl_24 : (24 : Int32).toNatClampNeg = 24 := by decide
theorem lit_30 : (30 : Int32) = nI 30 := rfl
theorem cl_30 : (30 : Int32).toNatClampNeg = 30 := by decide
theorem lit_48 : (48 : Int32) = nI 48 := rfl
theorem cl_48 : (48 : Int32).toNatClampNeg = 48 := by decide
theorem lit_57 : (57 : Int32) = nI 57 := rfl
theorem cl_57 : (57 : Int32).toNatClampNeg = 57 := by decide
theorem lit_60 : (60 : Int32) = nI 60 := rfl
theorem cl_60 : (60 : Int32).toNatClampNeg = 60 := by decide
theorem lit_80 : (80 : Int32) = nI 80 := rfl
theorem cl_80 : (80 : Int32).toNatClampNeg = 80 := by decide
theorem lit_96 : (96 : Int32) = nI 96 := rfl
theorem cl_96 : (96 : Int32).toNatClampNeg = 96 := by decide
theorem lit_108 : (108 : Int32) = nI 108 := rfl
theorem cl_108 : (108 : Int32).toNatClampNeg = 108 := by decide
theorem lit_126 : (126 : Int32) = nI 126 := rfl
theorem cl_126 : (126 : Int32).toNatClampNeg = 126 := by decide
theorem lit_168 : (168 : Int32) = nI 168 := rfl
theorem cl_168 : (168 : Int32).toNatClampNeg = 168 := by decide
theorem lit_255 : (255 : Int32) = nI 255 := rfl
theorem cl_255 : (255 : Int32).toNatClampNeg = 255 := by decide
theorem lit_336 : (336 : Int32) = nI 336 := rfl
theorem cl_336 : (336 : Int32).toNatClampNeg = 336 := by decide
theorem lit_400 : (400 : Int32) = nI 400 := rfl
theorem cl_400 : (400 : Int32).toNatClampNeg = 400 := by decide
theorem lts {α β : Type} {e : α} {k : α → Option β} : lt_ e k = k e := rfl
theorem ckI_ok {β : Type} {i N : Nat} (h : i < N) (hN : N < 2 ^ 31) {k : Option β} : ckI (nI i) N k = k := by
  unfold ckI
  exact if_neg (vp_in_nI h hN)
theorem nI_sub {a b : Nat} (h : b ≤ a) : nI a - nI b = nI (a - b) := pk_sub h
theorem m1_lt (n : Nat) (h : n < 2 ^ 31) : (-1 : Int32) < nI n := Int32.lt_iff_toInt_lt.mpr (by rw [nI_toInt h]; show (-1 : Int) < n; omega)
theorem X0_place {C i : Nat} (hi : i < C) (hC : C ≤ 12) : fX0_isPlace (nI C) (nI i) = some 1 := by
  simp (disch := omega) only [fX0_isPlace, lit_0, lit_1, lit_2, lit_3, lit_4, lit_5, lit_6, lit_7, lit_8, lit_9, lit_10, lit_11, lit_12, lit_13, lit_14, lit_15, lit_16, lit_17, lit_18, lit_19, lit_20, lit_21, lit_22, lit_23, lit_24, lit_30, lit_48, lit_57, lit_60, lit_80, lit_96, lit_108, lit_126, lit_168, lit_255, lit_336, lit_400, lts, bd0_s, bd1_s, bd2_s, bd3_s, bd4_s, bd5_s, bd6_s, bd7_s, nI_add, pk_mul, nI_sub, nI_clamp, nI_leI, nI_ltI, nI_eq, ckI_ok, if_pos, if_neg, Nat.not_lt_zero, if_false, if_true]
theorem X0_noplace (sz : Int32) : fX0_isPlace sz (-1) = some 0 := by
  unfold fX0_isPlace
  rw [if_pos (by decide)]
theorem X0_numberAt {C i : Nat} (hi : i < C) (hC : C ≤ 12) (nu : Nat → Int32) : fX0_numberAt (nI C) nu (nI i) = some (nu i) := by
  simp (disch := omega) only [fX0_numberAt, X0_place hi hC, bd1_s, lit_0, lit_1, lit_2, lit_3, lit_4, lit_5, lit_6, lit_7, lit_8, lit_9, lit_10, lit_11, lit_12, lit_13, lit_14, lit_15, lit_16, lit_17, lit_18, lit_19, lit_20, lit_21, lit_22, lit_23, lit_24, lit_30, lit_48, lit_57, lit_60, lit_80, lit_96, lit_108, lit_126, lit_168, lit_255, lit_336, lit_400, lts, bd0_s, bd1_s, bd2_s, bd3_s, bd4_s, bd5_s, bd6_s, bd7_s, nI_add, pk_mul, nI_sub, nI_clamp, nI_leI, nI_ltI, nI_eq, ckI_ok, if_pos, if_neg, Nat.not_lt_zero, if_false, if_true]
theorem X0_balanceAt {C i : Nat} (hi : i < C) (hC : C ≤ 12) (nu : Nat → Int32) : fX0_balanceAt (nI C) nu (nI i) = some (nu i) := by
  simp (disch := omega) only [fX0_balanceAt, X0_place hi hC, bd1_s, lit_0, lit_1, lit_2, lit_3, lit_4, lit_5, lit_6, lit_7, lit_8, lit_9, lit_10, lit_11, lit_12, lit_13, lit_14, lit_15, lit_16, lit_17, lit_18, lit_19, lit_20, lit_21, lit_22, lit_23, lit_24, lit_30, lit_48, lit_57, lit_60, lit_80, lit_96, lit_108, lit_126, lit_168, lit_255, lit_336, lit_400, lts, bd0_s, bd1_s, bd2_s, bd3_s, bd4_s, bd5_s, bd6_s, bd7_s, nI_add, pk_mul, nI_sub, nI_clamp, nI_leI, nI_ltI, nI_eq, ckI_ok, if_pos, if_neg, Nat.not_lt_zero, if_false, if_true]
theorem X0_movedAt {C i : Nat} (hi : i < C) (hC : C ≤ 12) (nu : Nat → Int32) : fX0_movedAt (nI C) nu (nI i) = some (nu i) := by
  simp (disch := omega) only [fX0_movedAt, X0_place hi hC, bd1_s, lit_0, lit_1, lit_2, lit_3, lit_4, lit_5, lit_6, lit_7, lit_8, lit_9, lit_10, lit_11, lit_12, lit_13, lit_14, lit_15, lit_16, lit_17, lit_18, lit_19, lit_20, lit_21, lit_22, lit_23, lit_24, lit_30, lit_48, lit_57, lit_60, lit_80, lit_96, lit_108, lit_126, lit_168, lit_255, lit_336, lit_400, lts, bd0_s, bd1_s, bd2_s, bd3_s, bd4_s, bd5_s, bd6_s, bd7_s, nI_add, pk_mul, nI_sub, nI_clamp, nI_leI, nI_ltI, nI_eq, ckI_ok, if_pos, if_neg, Nat.not_lt_zero, if_false, if_true]
theorem X0_countAt {C i : Nat} (hi : i < C) (hC : C ≤ 12) (nu : Nat → Int64) : fX0_countAt (nI C) nu (nI i) = some (nu i) := by
  simp (disch := omega) only [fX0_countAt, X0_place hi hC, bd1_s, lit_0, lit_1, lit_2, lit_3, lit_4, lit_5, lit_6, lit_7, lit_8, lit_9, lit_10, lit_11, lit_12, lit_13, lit_14, lit_15, lit_16, lit_17, lit_18, lit_19, lit_20, lit_21, lit_22, lit_23, lit_24, lit_30, lit_48, lit_57, lit_60, lit_80, lit_96, lit_108, lit_126, lit_168, lit_255, lit_336, lit_400, lts, bd0_s, bd1_s, bd2_s, bd3_s, bd4_s, bd5_s, bd6_s, bd7_s, nI_add, pk_mul, nI_sub, nI_clamp, nI_leI, nI_ltI, nI_eq, ckI_ok, if_pos, if_neg, Nat.not_lt_zero, if_false, if_true]
theorem X0_add {C i : Nat} (hi : i < C) (hC : C ≤ 12) (ba : Nat → Int32) (a : Int32) : fX0_add (nI C) ba (nI i) a = some (upd ba i (ba i + a)) := by
  simp (disch := omega) only [fX0_add, X0_place hi hC, bd1_s, lit_0, lit_1, lit_2, lit_3, lit_4, lit_5, lit_6, lit_7, lit_8, lit_9, lit_10, lit_11, lit_12, lit_13, lit_14, lit_15, lit_16, lit_17, lit_18, lit_19, lit_20, lit_21, lit_22, lit_23, lit_24, lit_30, lit_48, lit_57, lit_60, lit_80, lit_96, lit_108, lit_126, lit_168, lit_255, lit_336, lit_400, lts, bd0_s, bd1_s, bd2_s, bd3_s, bd4_s, bd5_s, bd6_s, bd7_s, nI_add, pk_mul, nI_sub, nI_clamp, nI_leI, nI_ltI, nI_eq, ckI_ok, if_pos, if_neg, Nat.not_lt_zero, if_false, if_true]
theorem X0_addN (C : Int32) (ba : Nat → Int32) (a : Int32) : fX0_add C ba (-1) a = some ba := by
  simp only [fX0_add, X0_noplace, bd1_s, if_pos]
theorem X0_addCount {C i : Nat} (hi : i < C) (hC : C ≤ 12) (co : Nat → Int64) (a : Int64) : fX0_addCount (nI C) co (nI i) a = some (vp_updL co i (co i + a)) := by
  simp (disch := omega) only [fX0_addCount, X0_place hi hC, bd1_s, lit_0, lit_1, lit_2, lit_3, lit_4, lit_5, lit_6, lit_7, lit_8, lit_9, lit_10, lit_11, lit_12, lit_13, lit_14, lit_15, lit_16, lit_17, lit_18, lit_19, lit_20, lit_21, lit_22, lit_23, lit_24, lit_30, lit_48, lit_57, lit_60, lit_80, lit_96, lit_108, lit_126, lit_168, lit_255, lit_336, lit_400, lts, bd0_s, bd1_s, bd2_s, bd3_s, bd4_s, bd5_s, bd6_s, bd7_s, nI_add, pk_mul, nI_sub, nI_clamp, nI_leI, nI_ltI, nI_eq, ckI_ok, if_pos, if_neg, Nat.not_lt_zero, if_false, if_true]
theorem X0_move {C i : Nat} (hi : i < C) (hC : C ≤ 12) (mo : Nat → Int32) (d : Int32) : fX0_move (nI C) mo (nI i) d = some (upd mo i d) := by
  simp (disch := omega) only [fX0_move, X0_place hi hC, bd1_s, lit_0, lit_1, lit_2, lit_3, lit_4, lit_5, lit_6, lit_7, lit_8, lit_9, lit_10, lit_11, lit_12, lit_13, lit_14, lit_15, lit_16, lit_17, lit_18, lit_19, lit_20, lit_21, lit_22, lit_23, lit_24, lit_30, lit_48, lit_57, lit_60, lit_80, lit_96, lit_108, lit_126, lit_168, lit_255, lit_336, lit_400, lts, bd0_s, bd1_s, bd2_s, bd3_s, bd4_s, bd5_s, bd6_s, bd7_s, nI_add, pk_mul, nI_sub, nI_clamp, nI_leI, nI_ltI, nI_eq, ckI_ok, if_pos, if_neg, Nat.not_lt_zero, if_false, if_true]
theorem X0_moveN (C : Int32) (mo : Nat → Int32) (d : Int32) : fX0_move C mo (-1) d = some mo := by
  simp only [fX0_move, X0_noplace, bd1_s, if_pos]
theorem X0_find_La {C k : Nat} (hC : C ≤ 12) (hk : k < C) (nu : Nat → Int32) (cl : Int32) (h : nu k = cl) : ∀ (n i : Nat), i ≤ k → k - i < n → (∀ j, i ≤ j → j < k → ¬ nu j = cl) → fX0_find_L2 (nI C) nu cl n (nI i) = some (.inl (nI k)) := by
  intro n
  induction n with
  | zero => intro i h1 h2; omega
  | succ n ih =>
    intro i h1 h2 h3
    rw [fX0_find_L2]
    simp (disch := omega) only [lit_0, lit_1, lit_2, lit_3, lit_4, lit_5, lit_6, lit_7, lit_8, lit_9, lit_10, lit_11, lit_12, lit_13, lit_14, lit_15, lit_16, lit_17, lit_18, lit_19, lit_20, lit_21, lit_22, lit_23, lit_24, lit_30, lit_48, lit_57, lit_60, lit_80, lit_96, lit_108, lit_126, lit_168, lit_255, lit_336, lit_400, lts, bd0_s, bd1_s, bd2_s, bd3_s, bd4_s, bd5_s, bd6_s, bd7_s, nI_add, pk_mul, nI_sub, nI_clamp, nI_leI, nI_ltI, nI_eq, ckI_ok, if_pos, if_neg, Nat.not_lt_zero, if_false, if_true]
    by_cases e : i = k
    · subst e; rw [if_pos h]
    · rw [if_neg (h3 i (Nat.le_refl i) (by omega))]
      exact ih (i + 1) (by omega) (by omega) (fun j hj => h3 j (by omega))
theorem X0_find_Lb {C : Nat} (hC : C ≤ 12) (nu : Nat → Int32) (cl : Int32) : ∀ (n i : Nat), i ≤ C → C - i < n → (∀ j, i ≤ j → j < C → ¬ nu j = cl) → fX0_find_L2 (nI C) nu cl n (nI i) = some (.inr ()) := by
  intro n
  induction n with
  | zero => intro i h1 h2; omega
  | succ n ih =>
    intro i h1 h2 h3
    rw [fX0_find_L2]
    by_cases e : i = C
    · subst e
      simp (disch := omega) only [lit_0, lit_1, lit_2, lit_3, lit_4, lit_5, lit_6, lit_7, lit_8, lit_9, lit_10, lit_11, lit_12, lit_13, lit_14, lit_15, lit_16, lit_17, lit_18, lit_19, lit_20, lit_21, lit_22, lit_23, lit_24, lit_30, lit_48, lit_57, lit_60, lit_80, lit_96, lit_108, lit_126, lit_168, lit_255, lit_336, lit_400, lts, bd0_s, bd1_s, bd2_s, bd3_s, bd4_s, bd5_s, bd6_s, bd7_s, nI_add, pk_mul, nI_sub, nI_clamp, nI_leI, nI_ltI, nI_eq, ckI_ok, if_pos, if_neg, Nat.not_lt_zero, if_false, if_true]
    · simp (disch := omega) only [lit_0, lit_1, lit_2, lit_3, lit_4, lit_5, lit_6, lit_7, lit_8, lit_9, lit_10, lit_11, lit_12, lit_13, lit_14, lit_15, lit_16, lit_17, lit_18, lit_19, lit_20, lit_21, lit_22, lit_23, lit_24, lit_30, lit_48, lit_57, lit_60, lit_80, lit_96, lit_108, lit_126, lit_168, lit_255, lit_336, lit_400, lts, bd0_s, bd1_s, bd2_s, bd3_s, bd4_s, bd5_s, bd6_s, bd7_s, nI_add, pk_mul, nI_sub, nI_clamp, nI_leI, nI_ltI, nI_eq, ckI_ok, if_pos, if_neg, Nat.not_lt_zero, if_false, if_true]
      rw [if_neg (h3 i (Nat.le_refl i) (by omega))]
      exact ih (i + 1) (by omega) (by omega) (fun j hj => h3 j (by omega))
theorem X0_find_i {C k : Nat} (hC : C ≤ 12) (hk : k < C) {nu : Nat → Int32} {cl : Int32} (h : nu k = cl) (h3 : ∀ j, j < k → ¬ nu j = cl) : fX0_find (nI C) nu cl = some (nI k) := by
  unfold fX0_find
  have e := X0_find_La hC hk nu cl h 2147483648 0 (Nat.zero_le _) (by omega) (fun j _ => h3 j)
  rw [nI_0] at e
  rw [e]; rfl
theorem X0_find_n {C : Nat} (hC : C ≤ 12) {nu : Nat → Int32} {cl : Int32} (h3 : ∀ j, j < C → ¬ nu j = cl) : fX0_find (nI C) nu cl = some (-1) := by
  unfold fX0_find
  have e := X0_find_Lb hC nu cl 2147483648 0 (Nat.zero_le _) (by omega) (fun j _ => h3 j)
  rw [nI_0] at e
  rw [e]; rfl
theorem X4_get {R i k : Nat} (hi : i < R) (hR : R ≤ 15) (hk : k < 4) (ce : Nat → Int32) : fX4_get (nI R) ce (nI i) (nI k) = some (ce (i * 4 + k)) := by
  simp (disch := omega) only [fX4_get, lit_0, lit_1, lit_2, lit_3, lit_4, lit_5, lit_6, lit_7, lit_8, lit_9, lit_10, lit_11, lit_12, lit_13, lit_14, lit_15, lit_16, lit_17, lit_18, lit_19, lit_20, lit_21, lit_22, lit_23, lit_24, lit_30, lit_48, lit_57, lit_60, lit_80, lit_96, lit_108, lit_126, lit_168, lit_255, lit_336, lit_400, lts, bd0_s, bd1_s, bd2_s, bd3_s, bd4_s, bd5_s, bd6_s, bd7_s, nI_add, pk_mul, nI_sub, nI_clamp, nI_leI, nI_ltI, nI_eq, ckI_ok, if_pos, if_neg, Nat.not_lt_zero, if_false, if_true]
theorem X4_set {R i k : Nat} (hi : i < R) (hR : R ≤ 15) (hk : k < 4) (ce : Nat → Int32) (v : Int32) : fX4_set (nI R) ce (nI i) (nI k) v = some (upd ce (i * 4 + k) v) := by
  simp (disch := omega) only [fX4_set, lit_0, lit_1, lit_2, lit_3, lit_4, lit_5, lit_6, lit_7, lit_8, lit_9, lit_10, lit_11, lit_12, lit_13, lit_14, lit_15, lit_16, lit_17, lit_18, lit_19, lit_20, lit_21, lit_22, lit_23, lit_24, lit_30, lit_48, lit_57, lit_60, lit_80, lit_96, lit_108, lit_126, lit_168, lit_255, lit_336, lit_400, lts, bd0_s, bd1_s, bd2_s, bd3_s, bd4_s, bd5_s, bd6_s, bd7_s, nI_add, pk_mul, nI_sub, nI_clamp, nI_leI, nI_ltI, nI_eq, ckI_ok, if_pos, if_neg, Nat.not_lt_zero, if_false, if_true]
theorem X4_find_La {R k : Nat} (hR : R ≤ 15) (hk : k < R) (ce : Nat → Int32) (cl : Int32) (h : ce (k * 4) = cl) : ∀ (n i : Nat), i ≤ k → k - i < n → (∀ j, i ≤ j → j < k → ¬ ce (j * 4) = cl) → fX4_find_L2 (nI R) ce cl n (nI i) = some (.inl (nI k)) := by
  intro n
  induction n with
  | zero => intro i h1 h2; omega
  | succ n ih =>
    intro i h1 h2 h3
    rw [fX4_find_L2]
    have g := X4_get (R := R) (i := i) (k := 0) (by omega) hR (by omega) ce
    simp (disch := omega) only [lit_0, lit_1, lit_2, lit_3, lit_4, lit_5, lit_6, lit_7, lit_8, lit_9, lit_10, lit_11, lit_12, lit_13, lit_14, lit_15, lit_16, lit_17, lit_18, lit_19, lit_20, lit_21, lit_22, lit_23, lit_24, lit_30, lit_48, lit_57, lit_60, lit_80, lit_96, lit_108, lit_126, lit_168, lit_255, lit_336, lit_400, lts, bd0_s, bd1_s, bd2_s, bd3_s, bd4_s, bd5_s, bd6_s, bd7_s, nI_add, pk_mul, nI_sub, nI_clamp, nI_leI, nI_ltI, nI_eq, ckI_ok, if_pos, if_neg, Nat.not_lt_zero, if_false, if_true, g, Nat.add_zero]
    by_cases e : i = k
    · subst e; rw [if_pos h]
    · rw [if_neg (h3 i (Nat.le_refl i) (by omega))]
      exact ih (i + 1) (by omega) (by omega) (fun j hj => h3 j (by omega))
theorem X4_find_Lb {R : Nat} (hR : R ≤ 15) (ce : Nat → Int32) (cl : Int32) : ∀ (n i : Nat), i ≤ R → R - i < n → (∀ j, i ≤ j → j < R → ¬ ce (j * 4) = cl) → fX4_find_L2 (nI R) ce cl n (nI i) = some (.inr ()) := by
  intro n
  induction n with
  | zero => intro i h1 h2; omega
  | succ n ih =>
    intro i h1 h2 h3
    rw [fX4_find_L2]
    by_cases e : i = R
    · subst e
      simp (disch := omega) only [lit_0, lit_1, lit_2, lit_3, lit_4, lit_5, lit_6, lit_7, lit_8, lit_9, lit_10, lit_11, lit_12, lit_13, lit_14, lit_15, lit_16, lit_17, lit_18, lit_19, lit_20, lit_21, lit_22, lit_23, lit_24, lit_30, lit_48, lit_57, lit_60, lit_80, lit_96, lit_108, lit_126, lit_168, lit_255, lit_336, lit_400, lts, bd0_s, bd1_s, bd2_s, bd3_s, bd4_s, bd5_s, bd6_s, bd7_s, nI_add, pk_mul, nI_sub, nI_clamp, nI_leI, nI_ltI, nI_eq, ckI_ok, if_pos, if_neg, Nat.not_lt_zero, if_false, if_true]
    · have g := X4_get (R := R) (i := i) (k := 0) (by omega) hR (by omega) ce
      simp (disch := omega) only [lit_0, lit_1, lit_2, lit_3, lit_4, lit_5, lit_6, lit_7, lit_8, lit_9, lit_10, lit_11, lit_12, lit_13, lit_14, lit_15, lit_16, lit_17, lit_18, lit_19, lit_20, lit_21, lit_22, lit_23, lit_24, lit_30, lit_48, lit_57, lit_60, lit_80, lit_96, lit_108, lit_126, lit_168, lit_255, lit_336, lit_400, lts, bd0_s, bd1_s, bd2_s, bd3_s, bd4_s, bd5_s, bd6_s, bd7_s, nI_add, pk_mul, nI_sub, nI_clamp, nI_leI, nI_ltI, nI_eq, ckI_ok, if_pos, if_neg, Nat.not_lt_zero, if_false, if_true, g, Nat.add_zero]
      rw [if_neg (h3 i (Nat.le_refl i) (by omega))]
      exact ih (i + 1) (by omega) (by omega) (fun j hj => h3 j (by omega))
theorem X4_find_i {R k : Nat} (hR : R ≤ 15) (hk : k < R) {ce : Nat → Int32} {cl : Int32} (h : ce (k * 4) = cl) (h3 : ∀ j, j < k → ¬ ce (j * 4) = cl) : fX4_find (nI R) ce cl = some (nI k) := by
  unfold fX4_find
  have e := X4_find_La hR hk ce cl h 2147483648 0 (Nat.zero_le _) (by omega) (fun j _ => h3 j)
  rw [nI_0] at e
  rw [e]; rfl
theorem X4_find_n {R : Nat} (hR : R ≤ 15) {ce : Nat → Int32} {cl : Int32} (h3 : ∀ j, j < R → ¬ ce (j * 4) = cl) : fX4_find (nI R) ce cl = some (-1) := by
  unfold fX4_find
  have e := X4_find_Lb hR ce cl 2147483648 0 (Nat.zero_le _) (by omega) (fun j _ => h3 j)
  rw [nI_0] at e
  rw [e]; rfl
/-- a sum over the first places that a test picks -/
def sumI (t : Nat → Bool) (a : Nat → Int32) : Nat → Int32
  | 0 => 0
  | n + 1 => if t n then sumI t a n + a n else sumI t a n
def sumL (a : Nat → Int64) : Nat → Int64
  | 0 => 0
  | n + 1 => sumL a n + a n
theorem sumI_cong {t u : Nat → Bool} {a b : Nat → Int32} : ∀ (n : Nat), (∀ i, i < n → t i = u i ∧ (t i = true → a i = b i)) → sumI t a n = sumI u b n
  | 0, _ => rfl
  | n + 1, h => by
    have e := sumI_cong n (fun i hi => h i (by omega))
    obtain ⟨h1, h2⟩ := h n (by omega)
    unfold sumI
    rw [e, ← h1]
    by_cases c : t n = true
    · rw [if_pos c, if_pos c, h2 c]
    · rw [if_neg c, if_neg c]
theorem sumL_cong {a b : Nat → Int64} : ∀ (n : Nat), (∀ i, i < n → a i = b i) → sumL a n = sumL b n
  | 0, _ => rfl
  | n + 1, h => by
    unfold sumL
    rw [sumL_cong n (fun i hi => h i (by omega)), h n (by omega)]
theorem X4_sumOf_L {R k : Nat} (hR : R ≤ 15) (hk : k < 4) (ce : Nat → Int32) (cl : Int32) : ∀ (n i : Nat), i ≤ R → R - i < n → fX4_sumOf_L5 (nI R) ce cl (nI k) n (sumI (fun j => decide (ce (j * 4 + 1) = cl)) (fun j => ce (j * 4 + k)) i) (nI i) = some (sumI (fun j => decide (ce (j * 4 + 1) = cl)) (fun j => ce (j * 4 + k)) R) := by
  intro n
  induction n with
  | zero => intro i h1 h2; omega
  | succ n ih =>
    intro i h1 h2
    rw [fX4_sumOf_L5]
    by_cases e : i = R
    · subst e
      simp (disch := omega) only [lit_0, lit_1, lit_2, lit_3, lit_4, lit_5, lit_6, lit_7, lit_8, lit_9, lit_10, lit_11, lit_12, lit_13, lit_14, lit_15, lit_16, lit_17, lit_18, lit_19, lit_20, lit_21, lit_22, lit_23, lit_24, lit_30, lit_48, lit_57, lit_60, lit_80, lit_96, lit_108, lit_126, lit_168, lit_255, lit_336, lit_400, lts, bd0_s, bd1_s, bd2_s, bd3_s, bd4_s, bd5_s, bd6_s, bd7_s, nI_add, pk_mul, nI_sub, nI_clamp, nI_leI, nI_ltI, nI_eq, ckI_ok, if_pos, if_neg, Nat.not_lt_zero, if_false, if_true]
    · have g := X4_get (R := R) (i := i) (k := 1) (by omega) hR (by omega) ce
      have g2 := X4_get (R := R) (i := i) (k := k) (by omega) hR hk ce
      have h3 := ih (i + 1) (by omega) (by omega)
      simp (disch := omega) only [lit_0, lit_1, lit_2, lit_3, lit_4, lit_5, lit_6, lit_7, lit_8, lit_9, lit_10, lit_11, lit_12, lit_13, lit_14, lit_15, lit_16, lit_17, lit_18, lit_19, lit_20, lit_21, lit_22, lit_23, lit_24, lit_30, lit_48, lit_57, lit_60, lit_80, lit_96, lit_108, lit_126, lit_168, lit_255, lit_336, lit_400, lts, bd0_s, bd1_s, bd2_s, bd3_s, bd4_s, bd5_s, bd6_s, bd7_s, nI_add, pk_mul, nI_sub, nI_clamp, nI_leI, nI_ltI, nI_eq, ckI_ok, if_pos, if_neg, Nat.not_lt_zero, if_false, if_true, g, g2]
      rw [sumI] at h3
      by_cases c : ce (i * 4 + 1) = cl
      · rw [if_pos c]
        rw [if_pos (by simpa using c)] at h3
        exact h3
      · rw [if_neg c]
        rw [if_neg (by simpa using c)] at h3
        exact h3
theorem X4_sumOf {R k : Nat} (hR : R ≤ 15) (hk : k < 4) (ce : Nat → Int32) (cl : Int32) : fX4_sumOf (nI R) ce cl (nI k) = some (sumI (fun j => decide (ce (j * 4 + 1) = cl)) (fun j => ce (j * 4 + k)) R) := by
  unfold fX4_sumOf
  have e := X4_sumOf_L hR hk ce cl 2147483648 0 (Nat.zero_le _) (by omega)
  rw [nI_0] at e
  rw [show (sumI (fun j => decide (ce (j * 4 + 1) = cl)) (fun j => ce (j * 4 + k)) 0) = 0 from rfl] at e
  rw [e]; rfl
theorem X4_countOf_L {R : Nat} (hR : R ≤ 15) (ce : Nat → Int32) (cl : Int32) : ∀ (n i : Nat), i ≤ R → R - i < n → fX4_countOf_L4 (nI R) ce cl n (sumI (fun j => decide (ce (j * 4 + 1) = cl)) (fun _ => 1) i) (nI i) = some (sumI (fun j => decide (ce (j * 4 + 1) = cl)) (fun _ => 1) R) := by
  intro n
  induction n with
  | zero => intro i h1 h2; omega
  | succ n ih =>
    intro i h1 h2
    rw [fX4_countOf_L4]
    by_cases e : i = R
    · subst e
      simp (disch := omega) only [lit_0, lit_1, lit_2, lit_3, lit_4, lit_5, lit_6, lit_7, lit_8, lit_9, lit_10, lit_11, lit_12, lit_13, lit_14, lit_15, lit_16, lit_17, lit_18, lit_19, lit_20, lit_21, lit_22, lit_23, lit_24, lit_30, lit_48, lit_57, lit_60, lit_80, lit_96, lit_108, lit_126, lit_168, lit_255, lit_336, lit_400, lts, bd0_s, bd1_s, bd2_s, bd3_s, bd4_s, bd5_s, bd6_s, bd7_s, nI_add, pk_mul, nI_sub, nI_clamp, nI_leI, nI_ltI, nI_eq, ckI_ok, if_pos, if_neg, Nat.not_lt_zero, if_false, if_true]
    · have g := X4_get (R := R) (i := i) (k := 1) (by omega) hR (by omega) ce
      have h3 := ih (i + 1) (by omega) (by omega)
      rw [← nI_1] at h3
      have hle : ¬ nI R ≤ nI i := nI_ge (by omega) (by omega)
      rw [if_neg hle, show (1 : Int32) = nI 1 from rfl, g, bd1_s]
      rw [sumI] at h3
      by_cases c : ce (i * 4 + 1) = cl
      · rw [if_pos c]
        rw [if_pos (by simpa using c)] at h3
        exact h3
      · rw [if_neg c]
        rw [if_neg (by simpa using c)] at h3
        exact h3
theorem X4_countOf {R : Nat} (hR : R ≤ 15) (ce : Nat → Int32) (cl : Int32) : fX4_countOf (nI R) ce cl = some (sumI (fun j => decide (ce (j * 4 + 1) = cl)) (fun _ => 1) R) := by
  unfold fX4_countOf
  have e := X4_countOf_L hR ce cl 2147483648 0 (Nat.zero_le _) (by omega)
  rw [nI_0] at e
  rw [show (sumI (fun j => decide (ce (j * 4 + 1) = cl)) (fun _ => 1) 0) = 0 from rfl] at e
  rw [e]; rfl
theorem X4_sumOfAll_L {R k : Nat} (hR : R ≤ 15) (hk : k < 4) (ce : Nat → Int32) : ∀ (n i : Nat), i ≤ R → R - i < n → fX4_sumOfAll_L5 (nI R) ce (nI k) n (sumL (fun j => (ce (j * 4 + k)).toInt64) i) (nI i) = some (sumL (fun j => (ce (j * 4 + k)).toInt64) R) := by
  intro n
  induction n with
  | zero => intro i h1 h2; omega
  | succ n ih =>
    intro i h1 h2
    rw [fX4_sumOfAll_L5]
    by_cases e : i = R
    · subst e
      simp (disch := omega) only [lit_0, lit_1, lit_2, lit_3, lit_4, lit_5, lit_6, lit_7, lit_8, lit_9, lit_10, lit_11, lit_12, lit_13, lit_14, lit_15, lit_16, lit_17, lit_18, lit_19, lit_20, lit_21, lit_22, lit_23, lit_24, lit_30, lit_48, lit_57, lit_60, lit_80, lit_96, lit_108, lit_126, lit_168, lit_255, lit_336, lit_400, lts, bd0_s, bd1_s, bd2_s, bd3_s, bd4_s, bd5_s, bd6_s, bd7_s, nI_add, pk_mul, nI_sub, nI_clamp, nI_leI, nI_ltI, nI_eq, ckI_ok, if_pos, if_neg, Nat.not_lt_zero, if_false, if_true]
    · have g := X4_get (R := R) (i := i) (k := k) (by omega) hR hk ce
      have h3 := ih (i + 1) (by omega) (by omega)
      simp (disch := omega) only [lit_0, lit_1, lit_2, lit_3, lit_4, lit_5, lit_6, lit_7, lit_8, lit_9, lit_10, lit_11, lit_12, lit_13, lit_14, lit_15, lit_16, lit_17, lit_18, lit_19, lit_20, lit_21, lit_22, lit_23, lit_24, lit_30, lit_48, lit_57, lit_60, lit_80, lit_96, lit_108, lit_126, lit_168, lit_255, lit_336, lit_400, lts, bd0_s, bd1_s, bd2_s, bd3_s, bd4_s, bd5_s, bd6_s, bd7_s, nI_add, pk_mul, nI_sub, nI_clamp, nI_leI, nI_ltI, nI_eq, ckI_ok, if_pos, if_neg, Nat.not_lt_zero, if_false, if_true, g]
      exact h3
theorem X4_sumOfAll {R k : Nat} (hR : R ≤ 15) (hk : k < 4) (ce : Nat → Int32) : fX4_sumOfAll (nI R) ce (nI k) = some (sumL (fun j => (ce (j * 4 + k)).toInt64) R) := by
  unfold fX4_sumOfAll
  have e := X4_sumOfAll_L hR hk ce 2147483648 0 (Nat.zero_le _) (by omega)
  rw [nI_0] at e
  rw [show (sumL (fun j => (ce (j * 4 + k)).toInt64) 0) = 0 from rfl] at e
  rw [e]; rfl
theorem upd_s (f : Nat → Int32) (k : Nat) (x : Int32) : upd f k x k = x := pk_us
theorem upd_n {f : Nat → Int32} {k j : Nat} {x : Int32} (h : j ≠ k) : upd f k x j = f j := pk_un h
theorem X4_append {R : Nat} (hR : R < 15) (la : Int32) (ce : Nat → Int32) (a b c : Int32) : fX4_append (nI R) la ce a b c = some (la + 1, nI (R + 1), la + 1, upd (upd (upd (upd ce (R * 4) (la + 1)) (R * 4 + 1) a) (R * 4 + 2) b) (R * 4 + 3) c) := by
  have g := fun (ce : Nat → Int32) (k : Nat) (hk : k < 4) (v : Int32) => X4_set (R := R + 1) (i := R) (k := k) (by omega) (by omega) hk ce v
  have g0 := fun ce v => g ce 0 (by omega) v
  have g1 := fun ce v => g ce 1 (by omega) v
  have g2 := fun ce v => g ce 2 (by omega) v
  have g3 := fun ce v => g ce 3 (by omega) v
  unfold fX4_append
  rw [if_pos (show nI R < 15 from nI_lt (b := 15) hR (by omega)), lts, lts, nI_1]
  rw [show (0 : Int32) = nI 0 from rfl, show (2 : Int32) = nI 2 from rfl, show (3 : Int32) = nI 3 from rfl, g0, bd1_s]
  rw [show fX4_set (nI (R + 1)) (upd ce (R * 4 + 0) (la + 1)) (nI R) 1 a = _ from g1 _ a, bd1_s, g2, bd1_s, g3, bd1_s]
  rfl
theorem X4_appendF {R : Nat} (hR : R = 15) (la : Int32) (ce : Nat → Int32) (a b c : Int32) : fX4_append (nI R) la ce a b c = some (-4, nI R, la, ce) := by
  subst hR
  unfold fX4_append
  rw [if_neg (by decide)]
/-- rows from the place g on go one place down -/
theorem X4_rm_in {R g : Nat} (hR : R ≤ 15) (hg : g + 1 < R) : ∀ (n k : Nat) (ce : Nat → Int32), k ≤ 4 → 4 - k < n → ∃ ce', fX4_remove_L27 (nI R) (nI g) n ce (nI k) = some ce' ∧ ∀ j, ce' j = if g * 4 + k ≤ j ∧ j < g * 4 + 4 then ce (j + 4) else ce j := by
  intro n
  induction n with
  | zero => intro k ce h1 h2; omega
  | succ n ih =>
    intro k ce h1 h2
    rw [fX4_remove_L27]
    by_cases e : k = 4
    · subst e
      refine ⟨ce, ?_, fun j => ?_⟩
      · rw [if_pos (show (4 : Int32) ≤ nI 4 by decide)]
      · rw [if_neg (by omega)]
    · have g1 := X4_get (R := R) (i := g + 1) (k := k) (by omega) hR (by omega) ce
      have g2 := X4_set (R := R) (i := g) (k := k) (by omega) hR (by omega) ce (ce ((g + 1) * 4 + k))
      obtain ⟨ce', h3, h4⟩ := ih (k + 1) (upd ce (g * 4 + k) (ce ((g + 1) * 4 + k))) (by omega) (by omega)
      refine ⟨ce', ?_, fun j => ?_⟩
      · rw [if_neg (show ¬ (4 : Int32) ≤ nI k from nI_ge (b := 4) (by omega) (by omega)), nI_1, g1, bd1_s, g2, bd1_s, nI_1]
        exact h3
      · rw [h4 j]
        by_cases c1 : j = g * 4 + k
        · subst c1
          rw [if_neg (by omega), if_pos (by omega), upd_s]
          congr 1; omega
        · by_cases c2 : g * 4 + (k + 1) ≤ j ∧ j < g * 4 + 4
          · rw [if_pos c2, if_pos (by omega), upd_n (by omega)]
          · rw [if_neg c2, if_neg (by omega), upd_n c1]
theorem X4_rm_L {R : Nat} (hR : R ≤ 15) : ∀ (n g : Nat) (ce : Nat → Int32), g < R → R - g < n → ∃ ce', fX4_remove_L15 (nI R) n ce (nI g) = some ce' ∧ ∀ j, j < (R - 1) * 4 → ce' j = if g * 4 ≤ j then ce (j + 4) else ce j := by
  intro n
  induction n with
  | zero => intro g ce h1 h2; omega
  | succ n ih =>
    intro g ce h1 h2
    rw [fX4_remove_L15]
    by_cases e : g + 1 = R
    · refine ⟨ce, ?_, fun j hj => ?_⟩
      · rw [nI_1, if_pos (nI_le (by omega) (by omega))]
      · rw [if_neg (by omega)]
    · obtain ⟨c1, h3, h4⟩ := X4_rm_in hR (g := g) (by omega) 2147483648 0 ce (by omega) (by omega)
      obtain ⟨c2, h5, h6⟩ := ih (g + 1) c1 (by omega) (by omega)
      refine ⟨c2, ?_, fun j hj => ?_⟩
      · rw [nI_1, if_neg (nI_ge (by omega) (by omega)), show (0 : Int32) = nI 0 from rfl, h3, bd1_s]
        exact h5
      · rw [h6 j hj]
        by_cases q : (g + 1) * 4 ≤ j
        · rw [if_pos q, if_pos (by omega), h4, if_neg (by omega)]
        · rw [if_neg q, h4]
          by_cases q2 : g * 4 ≤ j
          · rw [if_pos (by omega), if_pos q2]
          · rw [if_neg (by omega), if_neg q2]
theorem X4_remove {R g : Nat} (hR : R ≤ 15) (hg : g < R) (ce : Nat → Int32) : ∃ ce', fX4_remove (nI R) ce (nI g) = some (nI (R - 1), ce') ∧ ∀ j, j < (R - 1) * 4 → ce' j = if g * 4 ≤ j then ce (j + 4) else ce j := by
  obtain ⟨ce', h1, h2⟩ := X4_rm_L hR 2147483648 g ce hg (by omega)
  refine ⟨ce', ?_, h2⟩
  unfold fX4_remove
  rw [if_neg (nI_pos (by omega)), if_pos (nI_lt hg (by omega)), h1, bd1_s, lts]
  rw [show nI R - 1 = nI (R - 1) from nI_sub (a := R) (b := 1) (by omega)]
theorem rem24 {e : Nat} (h : e < 2 ^ 31) : nI e - nI e / 24 * 24 = nI (e % 24) := by
  rw [show (24 : Int32) = nI 24 from rfl]
  exact pk_rem h (by omega) (by omega)
theorem X6_cellOf {e k : Nat} (he : e < 2 ^ 31) : fX6_cellOf (nI e) (nI k) = some (nI (e % 24 * 7 + k)) := by
  unfold fX6_cellOf
  rw [rem24 he, show (7 : Int32) = nI 7 from rfl, pk_mul, nI_add]
theorem X6_set {e k : Nat} (he : e < 2 ^ 31) (hk : k < 7) (tc : Nat → Int32) (v : Int32) : fX6_set tc (nI e) (nI k) v = some (upd tc (e % 24 * 7 + k) v) := by
  have hm : e % 24 < 24 := Nat.mod_lt _ (by omega)
  unfold fX6_set
  rw [X6_cellOf he, bd1_s, if_neg (nI_pos (by omega)), if_neg (show ¬ (168 : Int32) ≤ nI (e % 24 * 7 + k) from nI_ge (b := 168) (by omega) (by omega)), ckI_ok (by omega) (by omega), lts, nI_clamp (by omega)]
def chk (lc d k f s a : Int32) : Int32 := ((((((lc.toInt64 * 1009) + (d.toInt64 * 31)) + (k.toInt64 * 17)) + (f.toInt64 * 101)) + (s.toInt64 * 103)) + a.toInt64 - ((((((lc.toInt64 * 1009) + (d.toInt64 * 31)) + (k.toInt64 * 17)) + (f.toInt64 * 101)) + (s.toInt64 * 103)) + a.toInt64) / 1000003 * 1000003).toInt32
def ent7 (f : Nat → Int32) (b : Nat) (d k c s a h : Int32) : Nat → Int32 := upd (upd (upd (upd (upd (upd (upd f (b + 0) d) (b + 1) k) (b + 2) c) (b + 3) s) (b + 4) a) (b + 5) h) (b + 6) 0
theorem X6_append {E : Nat} (hE : E + 1 < 2 ^ 31) (lc : Int32) (tc : Nat → Int32) (d k c s a : Int32) : fX6_append (nI E) lc tc d k c s a = some (nI (E + 1), chk lc d k c s a, ent7 tc ((E + 1) % 24 * 7) d k c s a (chk lc d k c s a)) := by
  have g := fun (tc : Nat → Int32) (k : Nat) (hk : k < 7) (v : Int32) => X6_set (e := E + 1) (k := k) (by omega) hk tc v
  have g0 : ∀ (tc : Nat → Int32) (v : Int32), fX6_set tc (nI (E + 1)) 0 v = _ := fun tc v => g tc 0 (by omega) v
  have g1 : ∀ (tc : Nat → Int32) (v : Int32), fX6_set tc (nI (E + 1)) 1 v = _ := fun tc v => g tc 1 (by omega) v
  have g2 : ∀ (tc : Nat → Int32) (v : Int32), fX6_set tc (nI (E + 1)) 2 v = _ := fun tc v => g tc 2 (by omega) v
  have g3 : ∀ (tc : Nat → Int32) (v : Int32), fX6_set tc (nI (E + 1)) 3 v = _ := fun tc v => g tc 3 (by omega) v
  have g4 : ∀ (tc : Nat → Int32) (v : Int32), fX6_set tc (nI (E + 1)) 4 v = _ := fun tc v => g tc 4 (by omega) v
  have g5 : ∀ (tc : Nat → Int32) (v : Int32), fX6_set tc (nI (E + 1)) 5 v = _ := fun tc v => g tc 5 (by omega) v
  have g6 : ∀ (tc : Nat → Int32) (v : Int32), fX6_set tc (nI (E + 1)) 6 v = _ := fun tc v => g tc 6 (by omega) v
  unfold fX6_append
  simp only [lts, nI_1, g0, g1, g2, g3, g4, g5, g6, bd1_s]
  rfl
theorem X6_get {E e k : Nat} (h1 : 1 ≤ e) (h2 : e ≤ E) (h3 : E < e + 24) (hE : E < 2 ^ 30) (hk : k < 7) (tc : Nat → Int32) (hkp : fX6_keeps (nI E) (nI e) = some 1) : fX6_get (nI E) tc (nI e) (nI k) = some (tc (e % 24 * 7 + k)) := by
  have hm : e % 24 < 24 := Nat.mod_lt _ (by omega)
  unfold fX6_get
  rw [X6_cellOf (by omega), bd1_s, hkp, bd1_s, if_neg (by decide), if_neg (nI_pos (by omega)), if_neg (show ¬ (168 : Int32) ≤ nI (e % 24 * 7 + k) from nI_ge (b := 168) (by omega) (by omega)), ckI_ok (by omega) (by omega), nI_clamp (by omega)]
theorem keeps_i {E : Nat} (hE : E < 2 ^ 30) (x : Int32) : fX6_keeps (nI E) x = some (if 1 ≤ x.toInt ∧ x.toInt ≤ E ∧ (E : Int) < x.toInt + 24 then 1 else 0) := by
  unfold fX6_keeps
  have e24 : (nI E - 24).toInt = (E : Int) - (24 : Nat) := pk_sub_toInt (a := E) (b := 24) (by omega) (by omega)
  have eE := nI_toInt (n := E) (by omega)
  have e1 : (1 : Int32).toInt = 1 := rfl
  simp only [Int32.lt_iff_toInt_lt, Int32.le_iff_toInt_le, e24, eE, e1]
  by_cases c1 : x.toInt < 1
  · rw [if_pos c1, if_neg (by omega)]
  · rw [if_neg c1]
    by_cases c2 : (E : Int) < x.toInt
    · rw [if_pos c2, if_neg (by omega)]
    · rw [if_neg c2]
      by_cases c3 : x.toInt ≤ (E : Int) - (24 : Nat)
      · rw [if_pos c3, if_neg (by omega)]
      · rw [if_neg c3, if_pos (by omega)]
theorem add_toInt {x y : Int32} (h1 : -2147483648 ≤ x.toInt + y.toInt) (h2 : x.toInt + y.toInt < 2147483648) : (x + y).toInt = x.toInt + y.toInt := by
  rw [Int32.toInt_add]
  exact Int.bmod_eq_of_le (by omega) (by omega)
theorem sub_toInt {x y : Int32} (h1 : -2147483648 ≤ x.toInt - y.toInt) (h2 : x.toInt - y.toInt < 2147483648) : (x - y).toInt = x.toInt - y.toInt := by
  rw [Int32.toInt_sub]
  exact Int.bmod_eq_of_le (by omega) (by omega)
theorem neg_toInt {x : Int32} (h1 : -2147483648 < x.toInt) : (-x).toInt = -x.toInt := by
  rw [Int32.toInt_neg]
  have := x.toInt_lt
  exact Int.bmod_eq_of_le (by omega) (by omega)
theorem nneg_nI {x : Int32} (h : 0 ≤ x.toInt) : ∃ k : Nat, x = nI k ∧ (k : Int) = x.toInt ∧ k < 2 ^ 31 := by
  obtain ⟨j, hj, e⟩ := nI_of (x := x) (fun c => by have := Int32.lt_iff_toInt_lt.mp c; have e0 : (0 : Int32).toInt = 0 := rfl; omega)
  exact ⟨j, e, by rw [e, nI_toInt hj], hj⟩
def sumZ (t : Nat → Bool) (a : Nat → Int32) : Nat → Int
  | 0 => 0
  | n + 1 => if t n then sumZ t a n + (a n).toInt else sumZ t a n
theorem sumZ_cong {t u : Nat → Bool} {a b : Nat → Int32} : ∀ (n : Nat), (∀ i, i < n → t i = u i ∧ (t i = true → a i = b i)) → sumZ t a n = sumZ u b n
  | 0, _ => rfl
  | n + 1, h => by
    have e := sumZ_cong n (fun i hi => h i (by omega))
    obtain ⟨h1, h2⟩ := h n (by omega)
    unfold sumZ
    rw [e, ← h1]
    by_cases c : t n = true
    · rw [if_pos c, if_pos c, h2 c]
    · rw [if_neg c, if_neg c]
theorem sum_toInt {t : Nat → Bool} {a : Nat → Int32} : ∀ (n : Nat), n ≤ 15 → (∀ i, i < n → 0 ≤ (a i).toInt ∧ (a i).toInt ≤ 100000000) → (sumI t a n).toInt = sumZ t a n ∧ 0 ≤ sumZ t a n ∧ sumZ t a n ≤ 100000000 * n
  | 0, _, _ => ⟨rfl, Int.le_refl 0, Int.le_refl 0⟩
  | n + 1, hn, h => by
    obtain ⟨h1, h2, h3⟩ := sum_toInt (t := t) (a := a) n (by omega) (fun i hi => h i (by omega))
    have h4 := h n (by omega)
    unfold sumI sumZ
    by_cases c : t n = true
    · rw [if_pos c, if_pos c, add_toInt (by omega) (by omega), h1]
      refine ⟨rfl, by omega, by push_cast; omega⟩
    · rw [if_neg c, if_neg c]
      refine ⟨h1, h2, by push_cast; omega⟩
/-- what is held of a client -/
theorem ent7_at {f : Nat → Int32} {b j : Nat} {d k c s a h : Int32} (hj : j < 7) : ent7 f b d k c s a h (b + j) = ent7 (fun _ => 0) 0 d k c s a h j := by
  unfold ent7
  rcases (by omega : j = 0 ∨ j = 1 ∨ j = 2 ∨ j = 3 ∨ j = 4 ∨ j = 5 ∨ j = 6) with e | e | e | e | e | e | e <;> subst e <;> simp (disch := omega) only [upd_s, upd_n, Nat.zero_add, ne_eq]
theorem ent7_n {f : Nat → Int32} {b j : Nat} {d k c s a h : Int32} (hj : j < b ∨ b + 7 ≤ j) : ent7 f b d k c s a h j = f j := by
  unfold ent7
  rw [upd_n (by omega), upd_n (by omega), upd_n (by omega), upd_n (by omega), upd_n (by omega), upd_n (by omega), upd_n (by omega)]
theorem updL_s (f : Nat → Int64) (k : Nat) (x : Int64) : vp_updL f k x k = x := by simp [vp_updL]
theorem updL_n {f : Nat → Int64} {k j : Nat} {x : Int64} (h : j ≠ k) : vp_updL f k x j = f j := by simp [vp_updL, h]
theorem toInt_0 : (0 : Int32).toInt = 0 := rfl
theorem toInt_1 : (1 : Int32).toInt = 1 := rfl
theorem toInt_e8 : (100000000 : Int32).toInt = 100000000 := rfl
theorem toInt_e9 : (1000000000 : Int32).toInt = 1000000000 := rfl
theorem le_i {x y : Int32} : x ≤ y ↔ x.toInt ≤ y.toInt := Int32.le_iff_toInt_le
theorem lt_i {x y : Int32} : x < y ↔ x.toInt < y.toInt := Int32.lt_iff_toInt_lt
theorem nI_nn {c : Nat} (h : c < 2 ^ 31) : (0 : Int32) ≤ nI c := by rw [le_i, nI_toInt h, toInt_0]; omega
theorem nI_nl {c : Nat} (h : c < 2 ^ 31) : ¬ nI c < (0 : Int32) := by rw [lt_i, nI_toInt h, toInt_0]; omega
theorem nI_inj {a b : Nat} (ha : a < 2 ^ 31) (hb : b < 2 ^ 31) (e : nI a = nI b) : a = b := by
  have := congrArg Int32.toInt e
  rw [nI_toInt ha, nI_toInt hb] at this
  omega
def apR (ce : Nat → Int32) (R : Nat) (n a v d : Int32) : Nat → Int32 := upd (upd (upd (upd ce (R * 4) n) (R * 4 + 1) a) (R * 4 + 2) v) (R * 4 + 3) d
theorem apR_o {ce : Nat → Int32} {R i k : Nat} {n a v d : Int32} (hi : i < R) (hk : k < 4) : apR ce R n a v d (i * 4 + k) = ce (i * 4 + k) := by
  unfold apR
  rw [upd_n (by omega), upd_n (by omega), upd_n (by omega), upd_n (by omega)]
theorem apR_0 {ce : Nat → Int32} {R : Nat} {n a v d : Int32} : apR ce R n a v d (R * 4) = n := by
  unfold apR
  rw [upd_n (by omega), upd_n (by omega), upd_n (by omega), upd_s]
theorem apR_1 {ce : Nat → Int32} {R : Nat} {n a v d : Int32} : apR ce R n a v d (R * 4 + 1) = a := by
  unfold apR
  rw [upd_n (by omega), upd_n (by omega), upd_s]
theorem apR_2 {ce : Nat → Int32} {R : Nat} {n a v d : Int32} : apR ce R n a v d (R * 4 + 2) = v := by
  unfold apR
  rw [upd_n (by omega), upd_s]
theorem apR_3 {ce : Nat → Int32} {R : Nat} {n a v d : Int32} : apR ce R n a v d (R * 4 + 3) = d := upd_s _ _ _
theorem n10 : ¬ (1 : Int32) = 0 := by decide
theorem X0_copyRow {C a b : Nat} (hC : C ≤ 12) (ha : a < C) (hb : b < C) (nu ba mo : Nat → Int32) (co : Nat → Int64) : fX0_copyRow (nI C) nu ba mo co (nI a) (nI b) = some (upd nu b (nu a), upd ba b (ba a), upd mo b (mo a), vp_updL co b (co a)) := by
  have ka : ∀ {β : Type} (k : Option β), ckI (nI a) 12 k = k := fun k => ckI_ok (by omega) (by omega)
  have kb : ∀ {β : Type} (k : Option β), ckI (nI b) 12 k = k := fun k => ckI_ok (by omega) (by omega)
  unfold fX0_copyRow
  rw [X0_place ha hC, bd1_s, if_neg n10, X0_place hb hC, bd1_s, if_neg n10, ka, kb, lts, ka, kb, lts, ka, kb, lts, ka, kb, lts, nI_clamp (by omega), nI_clamp (by omega)]
theorem sumZ_none {t : Nat → Bool} {a : Nat → Int32} : ∀ (n : Nat), (∀ i, i < n → t i = false) → sumZ t a n = 0
  | 0, _ => rfl
  | n + 1, h => by rw [sumZ, sumZ_none n (fun i hi => h i (by omega)), h n (by omega)]; rfl
theorem sumZ_some {t : Nat → Bool} {a : Nat → Int32} : ∀ (n : Nat), (∀ i, i < n → 1 ≤ (a i).toInt) → ∀ i, i < n → t i = true → 1 ≤ sumZ t a n
  | 0, _, i, hi, _ => by omega
  | n + 1, h, i, hi, ht => by
    have nn : ∀ m, m ≤ n → 0 ≤ sumZ t a m := by
      intro m
      induction m with
      | zero => intro _; exact Int.le_refl 0
      | succ m ih => intro hm; rw [sumZ]; have := ih (by omega); have := h m (by omega); split <;> omega
    rw [sumZ]
    by_cases e : i = n
    · subst e
      rw [if_pos ht]
      have := nn i (Nat.le_refl _); have := h i (by omega); omega
    · have := sumZ_some n (fun i hi => h i (by omega)) i (by omega) ht
      have := h n (by omega)
      split <;> omega
/-- where the clients go when one is put in at w -/
theorem mul64 {x y : Int64} (h1 : -9223372036854775808 ≤ x.toInt * y.toInt) (h2 : x.toInt * y.toInt < 9223372036854775808) : (x * y).toInt = x.toInt * y.toInt := by
  rw [Int64.toInt_mul]
  exact Int.bmod_eq_of_le (by omega) (by omega)
theorem add64 {x y : Int64} (h1 : -9223372036854775808 ≤ x.toInt + y.toInt) (h2 : x.toInt + y.toInt < 9223372036854775808) : (x + y).toInt = x.toInt + y.toInt := by
  rw [Int64.toInt_add]
  exact Int.bmod_eq_of_le (by omega) (by omega)
theorem sub64 {x y : Int64} (h1 : -9223372036854775808 ≤ x.toInt - y.toInt) (h2 : x.toInt - y.toInt < 9223372036854775808) : (x - y).toInt = x.toInt - y.toInt := by
  rw [Int64.toInt_sub]
  exact Int.bmod_eq_of_le (by omega) (by omega)
theorem up64 (x : Int32) : x.toInt64.toInt = x.toInt := Int32.toInt_toInt64 x
def growL (lim low hig b : Int32) : Int64 := low.toInt64 * (if lim < b then lim else b).toInt64 + hig.toInt64 * (b.toInt64 - (if lim < b then lim else b).toInt64)
theorem growth_i (lim low hig b : Int32) : fX5_growthPerDay lim low hig b = some (growL lim low hig b) := rfl
theorem growL_b {lim low hig b : Int32} (h1 : 0 ≤ lim.toInt) (h2 : 0 ≤ low.toInt ∧ low.toInt ≤ 2000) (h3 : 0 ≤ hig.toInt ∧ hig.toInt ≤ 2000) (h4 : 0 ≤ b.toInt ∧ b.toInt ≤ 1000000000) : 0 ≤ (growL lim low hig b).toInt ∧ (growL lim low hig b).toInt ≤ 2000000000000 := by
  obtain ⟨m, em⟩ : ∃ m, m = if lim < b then lim else b := ⟨_, rfl⟩
  have hm : 0 ≤ m.toInt ∧ m.toInt ≤ b.toInt := by
    rw [em]
    by_cases c : lim < b
    · rw [if_pos c]; rw [lt_i] at c; omega
    · rw [if_neg c]; omega
  have p1 : 0 ≤ low.toInt * m.toInt := Int.mul_nonneg h2.1 hm.1
  have p2 : low.toInt * m.toInt ≤ 2000 * m.toInt := Int.mul_le_mul_of_nonneg_right h2.2 hm.1
  have p3 : 0 ≤ hig.toInt * (b.toInt - m.toInt) := Int.mul_nonneg h3.1 (by omega)
  have p4 : hig.toInt * (b.toInt - m.toInt) ≤ 2000 * (b.toInt - m.toInt) := Int.mul_le_mul_of_nonneg_right h3.2 (by omega)
  have e0 : (b.toInt64 - m.toInt64).toInt = b.toInt - m.toInt := by rw [sub64 (by rw [up64, up64]; omega) (by rw [up64, up64]; omega), up64, up64]
  have e1 : (low.toInt64 * m.toInt64).toInt = low.toInt * m.toInt := by rw [mul64 (by rw [up64, up64]; omega) (by rw [up64, up64]; omega), up64, up64]
  have e2 : (hig.toInt64 * (b.toInt64 - m.toInt64)).toInt = hig.toInt * (b.toInt - m.toInt) := by rw [mul64 (by rw [up64, e0]; omega) (by rw [up64, e0]; omega), up64, e0]
  unfold growL
  rw [← em, add64 (by rw [e1, e2]; omega) (by rw [e1, e2]; omega), e1, e2]
  omega
/-- the interest that a credit day would give -/
def intL (b : Int32) (t : Int64) : Int64 := if (1000000000 - b).toInt64 < t / 3650000 then (1000000000 - b).toInt64 else t / 3650000
theorem div64 {t : Int64} (h : 0 ≤ t.toInt) : (t / 3650000).toInt = t.toInt / 3650000 := by
  have ht := t.toInt_lt
  have e : (3650000 : Int64).toInt = 3650000 := rfl
  rw [Int64.toInt_div, e, Int.tdiv_eq_ediv_of_nonneg h]
  exact Int.bmod_eq_of_le (by omega) (by omega)
theorem lt64 {x y : Int64} : x < y ↔ x.toInt < y.toInt := Int64.lt_iff_toInt_lt
theorem le64 {x y : Int64} : x ≤ y ↔ x.toInt ≤ y.toInt := Int64.le_iff_toInt_le
theorem room_e {b : Int32} (h : 0 ≤ b.toInt ∧ b.toInt ≤ 1000000000) : (1000000000 - b).toInt64.toInt = 1000000000 - b.toInt := by
  rw [up64, sub_toInt (by rw [toInt_e9]; omega) (by rw [toInt_e9]; omega), toInt_e9]
theorem intL_b {b : Int32} {t : Int64} (h : 0 ≤ b.toInt ∧ b.toInt ≤ 1000000000) (ht : 0 ≤ t.toInt) : 0 ≤ (intL b t).toInt ∧ (intL b t).toInt ≤ 1000000000 - b.toInt ∧ 3650000 * (intL b t).toInt ≤ t.toInt := by
  unfold intL
  have e1 := room_e h
  have e2 := div64 ht
  by_cases c : (1000000000 - b).toInt64 < t / 3650000
  · rw [if_pos c, e1]; rw [lt64, e1, e2] at c; omega
  · rw [if_neg c, e2]; rw [lt64, e1, e2] at c; omega
theorem dn64 {v : Int64} (h1 : -2147483648 ≤ v.toInt) (h2 : v.toInt < 2147483648) : v.toInt32.toInt = v.toInt ∧ v.toInt32.toInt64 = v := by
  have e : v.toInt32.toInt = v.toInt := by
    rw [Int64.toInt_toInt32]
    exact Int.bmod_eq_of_le (by omega) (by omega)
  exact ⟨e, Int64.toInt_inj.mp (by rw [up64, e])⟩
/-- what the class would credit -/
def crI (thr b : Int32) (t : Int64) : Int32 := if intL b t < thr.toInt64 then 0 else (intL b t).toInt32
theorem interest_i (thr b : Int32) (t : Int64) : fX5_interestToCredit thr b t = some (crI thr b t) := by
  unfold fX5_interestToCredit
  rw [lts]
  change (if intL b t < thr.toInt64 then some 0 else some (intL b t).toInt32) = some (crI thr b t)
  unfold crI
  by_cases c : intL b t < thr.toInt64
  · rw [if_pos c, if_pos c]
  · rw [if_neg c, if_neg c]
theorem crI_b {thr b : Int32} {t : Int64} (h : 0 ≤ b.toInt ∧ b.toInt ≤ 1000000000) (ht : 0 ≤ t.toInt) : 0 ≤ (crI thr b t).toInt ∧ (crI thr b t).toInt ≤ 1000000000 - b.toInt ∧ 3650000 * (crI thr b t).toInt ≤ t.toInt := by
  have q := intL_b h ht
  unfold crI
  by_cases c : intL b t < thr.toInt64
  · rw [if_pos c, toInt_0]; omega
  · rw [if_neg c, (dn64 (by omega) (by omega)).1]; exact q
theorem z64 : (0 : Int32).toInt64 = 0 := rfl
theorem upd_same (f : Nat → Int32) (k : Nat) : upd f k (f k) = f := by
  funext j
  by_cases e : j = k
  · subst e; rw [upd_s]
  · rw [upd_n e]
theorem grow_L {C : Nat} (hC : C ≤ 12) (Aba : Nat → Int32) (day lim low hig u : Int32) : ∀ (n z : Nat) (Aco : Nat → Int64), z ≤ C → C - z < n → ∃ Aco', fX5_growUntil_L2 (nI C) Aba day lim low hig u n Aco (nI z) = some Aco' ∧ ∀ i, Aco' i = if z ≤ i ∧ i < C then Aco i + growL lim low hig (Aba i) * (u - day).toInt64 else Aco i := by
  intro n
  induction n with
  | zero => intro z Aco h1 h2; omega
  | succ n ih =>
    intro z Aco h1 h2
    rw [fX5_growUntil_L2]
    by_cases e : z = C
    · subst e
      exact ⟨Aco, by rw [if_pos (nI_le (by omega) (by omega))], fun i => by rw [if_neg (by omega)]⟩
    · rw [if_neg (nI_ge (by omega) (by omega)), X0_balanceAt (by omega) hC, bd1_s, growth_i, bd1_s, X0_addCount (by omega) hC, bd1_s, nI_1]
      obtain ⟨A', g1, g2⟩ := ih (z + 1) (vp_updL Aco z (Aco z + growL lim low hig (Aba z) * (u - day).toInt64)) (by omega) (by omega)
      refine ⟨A', g1, fun i => ?_⟩
      rw [g2 i]
      by_cases w : i = z
      · subst w
        rw [if_neg (by omega), updL_s, if_pos ⟨by omega, by omega⟩]
      · by_cases w2 : z + 1 ≤ i ∧ i < C
        · rw [if_pos w2, if_pos ⟨by omega, by omega⟩, updL_n w]
        · rw [if_neg w2, if_neg (by omega), updL_n w]
theorem grow_i {C : Nat} (hC : C ≤ 12) (Aba : Nat → Int32) (Aco : Nat → Int64) (day lim low hig u : Int32) : ∃ Aco', fX5_growUntil (nI C) Aba Aco day lim low hig u = some (Aco', u) ∧ ∀ i, Aco' i = if i < C then Aco i + growL lim low hig (Aba i) * (u - day).toInt64 else Aco i := by
  obtain ⟨A', g1, g2⟩ := grow_L hC Aba day lim low hig u 2147483648 0 Aco (by omega) (by omega)
  rw [nI_0] at g1
  refine ⟨A', ?_, fun i => ?_⟩
  · unfold fX5_growUntil
    rw [g1, bd1_s]
  · rw [g2 i]
    by_cases c : i < C
    · rw [if_pos ⟨by omega, c⟩, if_pos c]
    · rw [if_neg (fun z => c z.2), if_neg c]
/-- the reference's day for one client -/
theorem i32_div30 {d : Nat} (hd : d < 2 ^ 31) : nI d - nI d / 30 * 30 = nI (d % 30) := by
  have e : nI d / 30 = nI (d / 30) := pk_div (a := d) (d := 30) (by omega) (by omega) (by omega)
  rw [e, lit_30, pk_mul, nI_sub (by omega)]
  exact congrArg nI (by omega)
theorem gap64 {a b : Nat} (h : b ≤ a) (ha : a < 2 ^ 31) : (nI (a + 1) - nI b).toInt64 = (nI a - nI b).toInt64 + 1 ∨ a + 1 = 2 ^ 31 := by
  by_cases c : a + 1 = 2 ^ 31
  · exact Or.inr c
  · refine Or.inl ?_
    rw [nI_sub h, nI_sub (by omega)]
    refine Int64.toInt_inj.mp ?_
    have e1 : (1 : Int64).toInt = 1 := rfl
    rw [add64 (by rw [up64, nI_toInt (by omega), e1]; omega) (by rw [up64, nI_toInt (by omega), e1]; omega), up64, up64, nI_toInt (by omega), nI_toInt (by omega), e1]
    omega
theorem gapS {a b : Nat} (h : b ≤ a) (ha : a ≤ 20000) (g : Int64) : g * (nI (a + 1) - nI b).toInt64 = g * (nI a - nI b).toInt64 + g := by
  rcases gap64 h (by omega) with e | e
  · rw [e, Int64.mul_add, Int64.mul_one]
  · omega
theorem gap0 (a : Nat) (x g : Int64) : x + g * (nI a - nI a).toInt64 = x := by
  rw [Int32.sub_self, z64, Int64.mul_zero, Int64.add_zero]
theorem sumBal_L {C : Nat} (hC : C ≤ 12) (ba : Nat → Int32) : ∀ (n z : Nat), z ≤ C → C - z < n → fX0_sumOfBalances_L4 (nI C) ba n (sumL (fun i => (ba i).toInt64) z) (nI z) = some (sumL (fun i => (ba i).toInt64) C) := by
  intro n
  induction n with
  | zero => intro z h1 h2; omega
  | succ n ih =>
    intro z h1 h2
    rw [fX0_sumOfBalances_L4]
    by_cases e : z = C
    · subst e; rw [if_pos (nI_le (by omega) (by omega))]
    · rw [if_neg (nI_ge (by omega) (by omega)), X0_balanceAt (by omega) hC, bd1_s, lts, nI_1]
      exact ih (z + 1) (by omega) (by omega)
theorem sumL_toInt {a : Nat → Int64} {m : Int} (hm : 0 ≤ m) (hm2 : m ≤ 10000000000) : ∀ (n : Nat), n ≤ 20 → (∀ i, i < n → 0 ≤ (a i).toInt ∧ (a i).toInt ≤ m) → ∃ S : Int, (sumL a n).toInt = S ∧ 0 ≤ S ∧ S ≤ m * n ∧ (∀ k, k < n → (sumL a (k + 1)).toInt = (sumL a k).toInt + (a k).toInt)
  | 0, _, _ => ⟨0, rfl, Int.le_refl 0, by omega, fun k hk => by omega⟩
  | n + 1, hn, h => by
    obtain ⟨S, h1, h2, h3, h4⟩ := sumL_toInt hm hm2 n (by omega) (fun i hi => h i (by omega))
    have hi := h n (by omega)
    have hb : m * n ≤ 10000000000 * 20 := by
      have : m * (n : Int) ≤ 10000000000 * (n : Int) := Int.mul_le_mul_of_nonneg_right hm2 (by omega)
      omega
    have e : (sumL a (n + 1)).toInt = (sumL a n).toInt + (a n).toInt := by
      show (sumL a n + a n).toInt = _
      exact add64 (by omega) (by omega)
    refine ⟨(sumL a n).toInt + (a n).toInt, e, by omega, ?_, fun k hk => ?_⟩
    · have : m * ((n : Int) + 1) = m * n + m := by rw [Int.mul_add, Int.mul_one]
      push_cast
      omega
    · by_cases q : k = n
      · subst q; exact e
      · exact h4 k (by omega)
/-- the sum over the clients of what each holds is the sum of all holds -/
theorem sub3650 (T : Int64) (r : Int32) : T - 3650000 * r.toInt64 = T + -3650000 * r.toInt64 := by rw [Int64.sub_eq_add_neg, Int64.neg_mul]
theorem X5_heldOn_L {R : Nat} (hR : R ≤ 15) (ce : Nat → Int32) (cl d : Int32) : ∀ (n i : Nat), i ≤ R → R - i < n → fX5_heldOn_L5 (nI R) ce cl d n (sumI (fun j => decide (ce (j * 4 + 1) = cl) && !decide (ce (j * 4 + 3) < d)) (fun j => ce (j * 4 + 2)) i) (nI i) = some (sumI (fun j => decide (ce (j * 4 + 1) = cl) && !decide (ce (j * 4 + 3) < d)) (fun j => ce (j * 4 + 2)) R) := by
  intro n
  induction n with
  | zero => intro i h1 h2; omega
  | succ n ih =>
    intro i h1 h2
    rw [fX5_heldOn_L5]
    by_cases e : i = R
    · subst e; rw [if_pos (nI_le (by omega) (by omega))]
    · have g1 : fX4_get (nI R) ce (nI i) 1 = _ := X4_get (k := 1) (by omega) hR (by omega) ce
      have g2 : fX4_get (nI R) ce (nI i) 2 = _ := X4_get (k := 2) (by omega) hR (by omega) ce
      have g3 : fX4_get (nI R) ce (nI i) 3 = _ := X4_get (k := 3) (by omega) hR (by omega) ce
      have h3 := ih (i + 1) (by omega) (by omega)
      rw [sumI] at h3
      rw [if_neg (nI_ge (by omega) (by omega)), g1, bd1_s, nI_1]
      by_cases c1 : ce (i * 4 + 1) = cl
      · rw [if_pos c1, g3, bd1_s]
        by_cases c3 : ce (i * 4 + 3) < d
        · rw [if_pos c3]
          rw [if_neg (by simp [c3])] at h3
          exact h3
        · rw [if_neg c3, g2, bd1_s, lts]
          rw [if_pos (by simp [c1, c3])] at h3
          exact h3
      · rw [if_neg c1]
        rw [if_neg (by simp [c1])] at h3
        exact h3
