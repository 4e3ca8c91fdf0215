/-! the pure side, zf: a number and the sign behind it -/
def finX (T : Nat) (x1 x2 x3 : Int32) : Option Int32 :=
  if x1 = 0 then some (nI T) else if x3 ≤ 0 then some (nI T) else bd1 (fX2_signAfter x1 x2) fun r => if r = 59 then some (-6) else some (nI T)
def FX (T : Nat) (ch : Nat → Int32) (n : Nat) (z1 z2 z3 z4 : Int32) : Option Int32 := bs3 (fX2_firstError_L9 (nI T) ch n z1 z2 z3 z4) (finX T)
theorem FX_0 (T : Nat) (ch : Nat → Int32) : fX2_firstError (nI T) ch = FX T ch 2147483648 0 0 0 0 := rfl
theorem bs3_l {ρ α1 α2 α3 : Type} {r : ρ} {k : α1 → α2 → α3 → Option ρ} : bs3 (some (.inl r)) k = some r := rfl
theorem bs3_r {ρ α1 α2 α3 : Type} {v1 : α1} {v2 : α2} {v3 : α3} {k : α1 → α2 → α3 → Option ρ} : bs3 (some (.inr (v1, v2, v3))) k = k v1 v2 v3 := rfl
theorem isn_end {T : Nat} (hT : T ≤ 80) (tx : Nat → Int32) {s : Int32} (hs : ¬ -1 = s) : fX8_isNext tx (nI T) (nI T) s = some (0, nI T) := by
  unfold fX8_isNext
  rw [chr_end hT, bd1_s, if_neg hs, lts, Int32.add_zero]
theorem isn_no {T i : Nat} {ch tx : Nat → Int32} (hT : T ≤ 80) (hc : ∀ i, i < T → ch i = tx i ∧ 33 ≤ (tx i).toInt ∧ (tx i).toInt ≤ 126) (hi : i < T) {s : Int32} (hs : ¬ tx i = s) : fX8_isNext tx (nI T) (nI i) s = some (0, nI i) := by
  unfold fX8_isNext
  rw [(at_i hT hc hi).2, bd1_s, if_neg hs, lts, Int32.add_zero]
theorem isn_yes {T i : Nat} {ch tx : Nat → Int32} (hT : T ≤ 80) (hc : ∀ i, i < T → ch i = tx i ∧ 33 ≤ (tx i).toInt ∧ (tx i).toInt ≤ 126) (hi : i < T) {s : Int32} (hs : tx i = s) : fX8_isNext tx (nI T) (nI i) s = some (1, nI (i + 1)) := by
  unfold fX8_isNext
  rw [(at_i hT hc hi).2, bd1_s, if_pos hs, lts, nI_1]
theorem nI_gt0 {d : Nat} (h : 0 < d) (h2 : d < 2 ^ 31) : ¬ nI d ≤ 0 := by rw [le_i, nI_toInt h2, toInt_0]; omega
theorem seg_i {T : Nat} {ch tx : Nat → Int32} (hT : T ≤ 80) (hc : ∀ i, i < T → ch i = tx i ∧ 33 ≤ (tx i).toInt ∧ (tx i).toInt ≤ 126) {i : Nat} (hi : i ≤ T) {c p s : Int32} (c0 : ¬ c = 0) (hs : fX2_signAfter c p = some s) (hs2 : 57 < s.toInt) : ∃ (e : Nat) (v : Int32), i ≤ e ∧ e ≤ T ∧ fX2_readNumber_L14 (nI T) ch 2147483648 (nI i) 0 0 = some (nI e, v) ∧
    (((∀ nu, fX8_readsNumber tx (nI T) (nI i) nu = some (0, nI e, v)) ∧ ∀ n, T - i < n → FX T ch n c p 0 (nI i) = some (nI e)) ∨
     ((∀ nu, fX8_readsNumber tx (nI T) (nI i) nu = some (1, nI e, v)) ∧ i < e ∧
       ((e = T ∧ ∀ n, T - i < n → FX T ch n c p 0 (nI i) = some (if s = 59 then -6 else nI T)) ∨
        (e < T ∧ ¬ tx e = s ∧ ∀ n, T - i < n → FX T ch n c p 0 (nI i) = some (nI e)) ∨
        (e < T ∧ tx e = s ∧ (s = 59 → ∀ n, T - i < n → ∃ m z3, T - (e + 1) < m ∧ FX T ch n c p 0 (nI i) = FX T ch m 0 p z3 (nI (e + 1))) ∧ (¬ s = 59 → ∀ n, T - i < n → ∃ m, T - (e + 1) < m ∧ FX T ch n c p 0 (nI i) = FX T ch m c (p + 1) 0 (nI (e + 1))))))) := by
  obtain ⟨d, v, a1, a2, a3, a4, a5, a6⟩ := num_i hT hc 6 0 i 0 (by omega) hi
  rw [nI_0] at a4 a5 a6
  rw [Nat.zero_add] at a1 a3 a4 a5
  refine ⟨i + d, v, by omega, a2, a6 2147483648 (by omega), ?_⟩
  by_cases d0 : d = 0
  · refine Or.inl ⟨fun nu => ?_, fun n hn => ?_⟩
    · unfold fX8_readsNumber
      rw [a4 2147483648 (by omega), bd3_s, d0, nI_0, if_pos (by decide)]
    · obtain ⟨m, em⟩ : ∃ m, n = m + 1 := ⟨n - 1, by omega⟩
      subst em
      subst d0
      unfold FX
      rw [fX2_firstError_L9, Nat.add_zero]
      rw [Nat.add_zero] at a3
      by_cases e : i = T
      · rw [e, if_pos (nI_le (Nat.le_refl _) (by omega)), bs3_r]
        unfold finX
        rw [if_neg c0, if_pos (by decide)]
      · rcases dig_dec (tx i) with ⟨b1, b2, b3⟩ | ⟨b1, b2, b3⟩
        · rcases a3 with q | q | q
          · omega
          · exact absurd q e
          · exact absurd b1 q
        · rw [if_neg (nI_ge (by omega) (by omega)), (at_i hT hc (show i < T by omega)).1, bd1_s, if_neg c0, b2, bd1_s, if_pos rfl, if_pos rfl]
          exact bs3_l
  · have hF : ∀ n, T - i < n → ∃ m, T - (i + d) ≤ m ∧ FX T ch n c p 0 (nI i) = FX T ch (m + 1) c p (nI d) (nI (i + d)) := fun n hn => by
      refine ⟨n - d - 1, by omega, ?_⟩
      obtain ⟨m, em⟩ : ∃ m, n = m + d := ⟨n - d, by omega⟩
      subst em
      unfold FX
      rw [a5 m c p c0, show m + d - d - 1 + 1 = m by omega]
    refine Or.inr ⟨fun nu => ?_, by omega, ?_⟩
    · unfold fX8_readsNumber
      rw [a4 2147483648 (by omega), bd3_s, if_neg (nI_gt0 (by omega) (by omega))]
    · by_cases e : i + d = T
      · refine Or.inl ⟨e, fun n hn => ?_⟩
        obtain ⟨m, h1, h2⟩ := hF n hn
        rw [h2]
        unfold FX
        rw [fX2_firstError_L9, e, if_pos (nI_le (Nat.le_refl _) (by omega)), bs3_r]
        unfold finX
        rw [if_neg c0, if_neg (nI_gt0 (by omega) (by omega)), hs, bd1_s]
        by_cases q : s = 59
        · rw [if_pos q, if_pos q]
        · rw [if_neg q, if_neg q]
      · right
        have lt : i + d < T := by omega
        have st : ∀ m, FX T ch (m + 1) c p (nI d) (nI (i + d)) = bs3 (bd1 (fX2_isDigit (tx (i + d))) fun r_5 => if r_5 = 0 then (if nI d = 0 then some (.inl (nI (i + d))) else bd1 (fX2_signAfter c p) fun r_9 => if tx (i + d) = r_9 then (if tx (i + d) = 59 then fX2_firstError_L9 (nI T) ch m 0 p (nI d) (nI (i + d) + 1) else fX2_firstError_L9 (nI T) ch m c (p + 1) 0 (nI (i + d) + 1)) else some (.inl (nI (i + d)))) else (if nI d = 6 then some (.inl (nI (i + d))) else fX2_firstError_L9 (nI T) ch m c p (nI d + 1) (nI (i + d) + 1))) (finX T) := fun m => by
          unfold FX
          rw [fX2_firstError_L9, if_neg (nI_ge (by omega) (by omega)), (at_i hT hc lt).1, bd1_s, if_neg c0]
        rcases dig_dec (tx (i + d)) with ⟨b1, b2, b3⟩ | ⟨b1, b2, b3⟩
        · have d6 : d = 6 := by
            rcases a3 with q | q | q
            · exact q
            · exact absurd q e
            · exact absurd b1 q
          refine Or.inl ⟨lt, fun q => by rw [q] at b1; omega, fun n hn => ?_⟩
          obtain ⟨m, h1, h2⟩ := hF n hn
          rw [h2, st, b2, bd1_s, if_neg n10, if_pos (by rw [d6]; rfl)]
          exact bs3_l
        · have dn : ¬ nI d = 0 := fun q => d0 (nI_inj (a := d) (b := 0) (by omega) (by omega) q)
          by_cases q : tx (i + d) = s
          · refine Or.inr ⟨lt, q, fun q9 n hn => ?_, fun q9 n hn => ?_⟩
            · obtain ⟨m, h1, h2⟩ := hF n hn
              refine ⟨m, nI d, by omega, ?_⟩
              rw [h2, st, b2, bd1_s, if_pos rfl, if_neg dn, hs, bd1_s, if_pos q, if_pos (q.trans q9), nI_1]
              rfl
            · obtain ⟨m, h1, h2⟩ := hF n hn
              refine ⟨m, by omega, ?_⟩
              rw [h2, st, b2, bd1_s, if_pos rfl, if_neg dn, hs, bd1_s, if_pos q, if_neg (fun z => q9 (q.symm.trans z)), nI_1]
              rfl
          · refine Or.inl ⟨lt, q, fun n hn => ?_⟩
            obtain ⟨m, h1, h2⟩ := hF n hn
            rw [h2, st, b2, bd1_s, if_pos rfl, if_neg dn, hs, bd1_s, if_neg q]
            exact bs3_l
