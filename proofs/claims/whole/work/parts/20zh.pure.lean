/-! the pure side, zh: the first error -/
theorem bs6_l {ρ α1 α2 α3 α4 α5 α6 : Type} {r : ρ} {k : α1 → α2 → α3 → α4 → α5 → α6 → Option ρ} : bs6 (some (.inl r)) k = some r := rfl
theorem bs6_r {ρ α1 α2 α3 α4 α5 α6 : Type} {v1 : α1} {v2 : α2} {v3 : α3} {v4 : α4} {v5 : α5} {v6 : α6} {k : α1 → α2 → α3 → α4 → α5 → α6 → Option ρ} : bs6 (some (.inr (v1, v2, v3, v4, v5, v6))) k = k v1 v2 v3 v4 v5 v6 := rfl
theorem nI_ne {a b : Nat} (h : a ≠ b) (ha : a < 2 ^ 31) (hb : b < 2 ^ 31) : ¬ nI a = nI b := fun q => h (nI_inj ha hb q)
theorem syn_L {T : Nat} {ch tx : Nat → Int32} (hT : T ≤ 80) (hc : ∀ i, i < T → ch i = tx i ∧ 33 ≤ (tx i).toInt ∧ (tx i).toInt ≤ 126) : ∀ (k i : Nat), i ≤ T → T - i < k → ∀ (n : Nat) (z2 z3 : Int32), T - i < n → ∀ ltr on_ tw th nu : Int32, ∃ r at' ltr' on' tw' th' nu' : Int32, FX T ch n 0 z2 z3 (nI i) = some r ∧ (bs6 (fX8_findError_L5 tx (nI T) k (nI i) ltr on_ tw th nu) fun a b c d e f => some (a, a, b, c, d, e, f)) = some (r, at', ltr', on', tw', th', nu') := by
  intro k
  induction k with
  | zero => intro i h1 h2; omega
  | succ k ih =>
    intro i hi hk n z2 z3 hn ltr on_ tw th nu
    rcases ord_i hT hc hi with ⟨e, e1, e2, e3⟩ | ⟨e, e1, e2, ⟨c, v1, v2, v3, rx, rm⟩, hcase⟩
    · obtain ⟨ltr', on', tw', th', nu', e4⟩ := e3 ltr on_ tw th nu
      refine ⟨nI e, nI e, ltr', on', tw', th', nu', e2 n z2 z3 hn, ?_⟩
      rw [fX8_findError_L5, e4, bd7_s, if_pos rfl, bs6_l]
    · obtain ⟨on', tw', th', nu', r1, r2⟩ := rm ltr on_ tw th nu
      rcases hcase with ⟨h1, h2⟩ | ⟨h1, h2, h3⟩ | ⟨h1, h2, h3⟩
      · refine ⟨-6, nI e, c, on', tw', th', nu', h2 n z2 z3 hn, ?_⟩
        rw [fX8_findError_L5, r1, bd7_s, if_neg n10, if_pos (by rw [h1]), bs6_l]
      · refine ⟨nI e, nI e, c, on', tw', th', nu', h3 n z2 z3 hn, ?_⟩
        rw [fX8_findError_L5, r1, bd7_s, if_neg n10, if_neg (nI_ne (by omega) (by omega) (by omega)), isn_no hT hc h1 h2, bd2_s, if_pos rfl, bs6_r]
      · obtain ⟨m, z2', z3', q1, q2⟩ := h3 n z2 z3 hn
        obtain ⟨r, at', ltr', on2, tw2, th2, nu2, w1, w2⟩ := ih (e + 1) (by omega) (by omega) m z2' z3' q1 c on' tw' th' nu'
        refine ⟨r, at', ltr', on2, tw2, th2, nu2, q2.trans w1, ?_⟩
        rw [fX8_findError_L5, r1, bd7_s, if_neg n10, if_neg (nI_ne (by omega) (by omega) (by omega)), isn_yes hT hc h1 h2, bd2_s, if_neg n10]
        exact w2
theorem syn_i {T : Nat} {ch tx : Nat → Int32} (hT : T ≤ 80) (hc : ∀ i, i < T → ch i = tx i ∧ 33 ≤ (tx i).toInt ∧ (tx i).toInt ≤ 126) (at_ ltr on_ tw th nu : Int32) : ∃ r at' ltr' on' tw' th' nu' : Int32, fX2_firstError (nI T) ch = some r ∧ fX8_findError tx (nI T) at_ ltr on_ tw th nu = some (r, at', ltr', on', tw', th', nu') := by
  obtain ⟨r, at', ltr', on', tw', th', nu', h1, h2⟩ := syn_L hT hc 2147483648 0 (by omega) (by omega) 2147483648 0 0 (by omega) ltr on_ tw th nu
  rw [nI_0] at h1 h2
  exact ⟨r, at', ltr', on', tw', th', nu', h1, h2⟩
