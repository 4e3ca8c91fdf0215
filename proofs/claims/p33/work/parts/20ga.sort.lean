/-! the ranking: what its sorting gives -/
def insP (K : Nat → Int32) (s : Nat → Nat) (i : Nat) : Nat → Nat
  | 0 => 0
  | m + 1 => if K (s m) ≤ K i then m + 1 else insP K s i m
def srt (K : Nat → Int32) : Nat → Nat → Nat
  | 0 => fun _ => 0
  | i + 1 => fun j => if j < insP K (srt K i) i i then srt K i j else if j = insP K (srt K i) i i then i else srt K i (j - 1)
def Rel (K : Nat → Int32) (a b : Nat) : Prop := K a < K b ∨ (K a = K b ∧ a < b)
theorem insP_le (K : Nat → Int32) (s : Nat → Nat) (i : Nat) : ∀ m, insP K s i m ≤ m
  | 0 => Nat.le_refl _
  | m + 1 => by
    rw [insP]
    split
    · exact Nat.le_refl _
    · exact Nat.le_trans (insP_le K s i m) (Nat.le_succ _)
theorem insP_hi (K : Nat → Int32) (s : Nat → Nat) (i : Nat) : ∀ m j, insP K s i m ≤ j → j < m → ¬ K (s j) ≤ K i
  | 0, j, _, h => absurd h (Nat.not_lt_zero _)
  | m + 1, j, h1, h2 => by
    rw [insP] at h1
    by_cases q : K (s m) ≤ K i
    · rw [if_pos q] at h1; omega
    · rw [if_neg q] at h1
      by_cases e : j = m
      · subst e; exact q
      · exact insP_hi K s i m j h1 (by omega)
theorem insP_lo (K : Nat → Int32) (s : Nat → Nat) (i : Nat) : ∀ m, 0 < insP K s i m → K (s (insP K s i m - 1)) ≤ K i
  | 0, h => absurd h (Nat.lt_irrefl _)
  | m + 1, h => by
    by_cases q : K (s m) ≤ K i
    · rw [insP, if_pos q]; exact q
    · rw [insP, if_neg q] at h ⊢
      exact insP_lo K s i m h
theorem srt_b (K : Nat → Int32) : ∀ i, (∀ j, j < i → srt K i j < i) ∧ ∀ j k, j < k → k < i → Rel K (srt K i j) (srt K i k)
  | 0 => ⟨fun j h => absurd h (Nat.not_lt_zero _), fun j k _ h => absurd h (Nat.not_lt_zero _)⟩
  | i + 1 => by
    obtain ⟨h1, h2⟩ := srt_b K i
    have e : ∀ j, srt K (i + 1) j = if j < insP K (srt K i) i i then srt K i j else if j = insP K (srt K i) i i then i else srt K i (j - 1) := fun j => rfl
    have l1 := insP_le K (srt K i) i i
    have l2 := insP_hi K (srt K i) i i
    have l3 := insP_lo K (srt K i) i i
    generalize insP K (srt K i) i i = x at e l1 l2 l3
    refine ⟨fun j hj => ?_, fun j k hjk hk => ?_⟩
    · rw [e]
      split
      · exact Nat.lt_succ_of_lt (h1 j (by omega))
      · split
        · exact Nat.lt_succ_self _
        · exact Nat.lt_succ_of_lt (h1 (j - 1) (by omega))
    · rw [e, e]
      by_cases a1 : k < x
      · rw [if_pos a1, if_pos (by omega)]; exact h2 j k hjk (by omega)
      · rw [if_neg a1]
        by_cases a2 : k = x
        · rw [if_pos a2, if_pos (by omega)]
          have q := l3 (by omega)
          have hs := h1 j (by omega)
          have w : K (srt K i j) ≤ K i := by
            by_cases a3 : j = x - 1
            · rw [a3]; exact q
            · have := h2 j (x - 1) (by omega) (by omega)
              unfold Rel at this
              rw [le_i] at q ⊢
              rcases this with this | this
              · rw [lt_i] at this; omega
              · rw [this.1]; exact q
          unfold Rel
          by_cases a4 : K (srt K i j) = K i
          · exact Or.inr ⟨a4, hs⟩
          · refine Or.inl ?_
            rw [le_i] at w
            rw [lt_i]
            have : ¬ (K (srt K i j)).toInt = (K i).toInt := fun z => a4 (Int32.toInt_inj.mp z)
            omega
        · rw [if_neg a2]
          by_cases a5 : j < x
          · rw [if_pos a5]; exact h2 j (k - 1) (by omega) (by omega)
          · rw [if_neg a5]
            by_cases a6 : j = x
            · rw [if_pos a6]
              have q := l2 (k - 1) (by omega) (by omega)
              exact Or.inl (Int32.not_le.mp q)
            · rw [if_neg a6]; exact h2 (j - 1) (k - 1) (by omega) (by omega)
theorem srt_0 : ∀ i j, j < i → srt (fun _ => 0) i j = j
  | 0, j, h => absurd h (Nat.not_lt_zero _)
  | i + 1, j, h => by
    have e : srt (fun _ => 0) (i + 1) j = if j < insP (fun _ => 0) (srt (fun _ => 0) i) i i then srt (fun _ => 0) i j else if j = insP (fun _ => 0) (srt (fun _ => 0) i) i i then i else srt (fun _ => 0) i (j - 1) := rfl
    have x : insP (fun _ => 0) (srt (fun _ => 0) i) i i = i := by
      cases i with
      | zero => rfl
      | succ i => rw [insP, if_pos (Int32.le_refl _)]
    rw [e, x]
    by_cases a : j < i
    · rw [if_pos a]; exact srt_0 i j a
    · rw [if_neg a, if_pos (by omega)]; omega
section SO
variable {C : Nat} {Anu Aba Amo Hce : Nat → Int32} {Hsz o : Int32} {K : Nat → Int32}
theorem x_in (hC : C ≤ 12) {i : Nat} (hi : i < C) (s : Nat → Nat) (u2 u3 : Int32) {Z : Nat → Int32} : ∀ (n m : Nat) (cl ke : Nat → Int32), m ≤ i → m < n → (∀ j, j < m → ke j = K (s j)) → ∃ cl' ke', fX3_sort_L37 u2 u3 (K i) n cl ke (nI m) = some (cl', ke', nI (insP K s i m)) ∧ ∀ j, (cl' j = if insP K s i m < j ∧ j ≤ m then cl (j - 1) else cl j) ∧ (ke' j = if insP K s i m < j ∧ j ≤ m then ke (j - 1) else ke j) := by
  intro n
  induction n with
  | zero => intro m cl ke h1 h2; omega
  | succ n ih =>
    intro m cl ke h1 h2 h3
    rw [fX3_sort_L37]
    cases m with
    | zero =>
      rw [if_pos (show nI 0 ≤ 0 from by decide)]
      exact ⟨cl, ke, rfl, fun j => ⟨by rw [if_neg (by omega)], by rw [if_neg (by omega)]⟩⟩
    | succ m =>
      have e1 : nI (m + 1) - 1 = nI m := nI_sub (b := 1) (by omega)
      have e2 : nI (m + 1) + -1 = nI m := by rw [← e1, Int32.sub_eq_add_neg]
      rw [if_neg (show ¬ nI (m + 1) ≤ 0 by rw [le_i, nI_toInt (by omega), toInt_0]; omega), e1, ckI_ok (show m < 12 by omega) (by omega), nI_clamp (by omega), h3 m (Nat.lt_succ_self _), insP]
      by_cases q : K (s m) ≤ K i
      · rw [if_pos q, if_pos q]
        exact ⟨cl, ke, rfl, fun j => ⟨by rw [if_neg (by omega)], by rw [if_neg (by omega)]⟩⟩
      · rw [if_neg q, if_neg q, ckI_ok (show m < 12 by omega) (by omega), ckI_ok (show m + 1 < 12 by omega) (by omega), lts, ckI_ok (show m < 12 by omega) (by omega), ckI_ok (show m + 1 < 12 by omega) (by omega), lts, nI_clamp (by omega), e2]
        obtain ⟨cl', ke', g1, g2⟩ := ih m (upd cl (m + 1) (cl m)) (upd ke (m + 1) (ke m)) (by omega) (by omega) (fun j hj => by rw [upd_n (by omega)]; exact h3 j (by omega))
        have le := insP_le K s i m
        have g1' := g1
        rw [h3 m (Nat.lt_succ_self _)] at g1'
        refine ⟨cl', ke', g1', fun j => ?_⟩
        obtain ⟨g3, g4⟩ := g2 j
        rw [g3, g4]
        by_cases a : insP K s i m < j ∧ j ≤ m
        · rw [if_pos a, if_pos a, if_pos ⟨a.1, by omega⟩, if_pos ⟨a.1, by omega⟩, upd_n (by omega), upd_n (by omega)]
          exact ⟨rfl, rfl⟩
        · rw [if_neg a, if_neg a]
          by_cases b : j = m + 1
          · subst b
            rw [upd_s, upd_s, if_pos ⟨by omega, Nat.le_refl _⟩, if_pos ⟨by omega, Nat.le_refl _⟩]
            exact ⟨rfl, rfl⟩
          · rw [upd_n b, upd_n b, if_neg (by omega), if_neg (by omega)]
            exact ⟨rfl, rfl⟩
theorem x_out (hC : C ≤ 12) (hK : ∀ i, i < C → fX3_keyOf (nI C) Anu Aba Amo Hsz Hce o (nI i) = some (K i)) : ∀ (n i : Nat) (cl ke : Nat → Int32), i ≤ C → C - i < n → (∀ j, j < i → cl j = Anu (srt K i j) ∧ ke j = K (srt K i j)) → ∃ cl' ke', fX3_sort_L18 (nI C) (nI C) Anu Aba Amo Hsz Hce o n cl ke (nI i) = some (cl', ke') ∧ ∀ j, j < C → cl' j = Anu (srt K C j) ∧ ke' j = K (srt K C j) := by
  intro n
  induction n with
  | zero => intro i cl ke h1 h2; omega
  | succ n ih =>
    intro i cl ke h1 h2 h3
    rw [fX3_sort_L18]
    by_cases e : i = C
    · subst e
      rw [if_pos (Int32.le_refl _)]
      exact ⟨cl, ke, rfl, h3⟩
    · have hi : i < C := by omega
      obtain ⟨cl', ke', g1, g2⟩ := x_in (K := K) hC hi (srt K i) o (nI i) (Z := K) 2147483648 i cl ke (Nat.le_refl _) (by omega) (fun j hj => (h3 j hj).2)
      have l1 := insP_le K (srt K i) i i
      have es : ∀ j, srt K (i + 1) j = if j < insP K (srt K i) i i then srt K i j else if j = insP K (srt K i) i i then i else srt K i (j - 1) := fun j => rfl
      rw [if_neg (nI_ge hi (by omega)), hK i hi, bd1_s, g1, bd3_s, ckI_ok (show insP K (srt K i) i i < 12 by omega) (by omega), lts, X0_numberAt hi hC, bd1_s, ckI_ok (show insP K (srt K i) i i < 12 by omega) (by omega), lts, nI_clamp (by omega), nI_1]
      refine ih (i + 1) _ _ (by omega) (by omega) (fun j hj => ?_)
      obtain ⟨g3, g4⟩ := g2 j
      rw [es]
      generalize insP K (srt K i) i i = x at g3 g4 l1
      by_cases a : j = x
      · subst a
        rw [upd_s, upd_s, if_neg (Nat.lt_irrefl _), if_pos rfl]
        exact ⟨rfl, rfl⟩
      · rw [upd_n a, upd_n a, g3, g4]
        by_cases b : j < x
        · rw [if_pos b, if_neg (by omega), if_neg (by omega)]
          exact h3 j (by omega)
        · rw [if_neg b, if_neg a, if_pos ⟨by omega, by omega⟩, if_pos ⟨by omega, by omega⟩]
          exact h3 (j - 1) (by omega)
theorem ranked_b (hC : C ≤ 12) {u : Nat} (hu : u ≤ 3) (hK : ∀ i, i < C → fX3_keyOf (nI C) Anu Aba Amo Hsz Hce (nI u) (nI i) = some (K i)) {k : Nat} (hk : k < C) (Ksz : Int32) (Kcl : Nat → Int32) (Kke : Nat → Int32) : ∃ Ksz' Kcl' Kke', fX7_ranked Ksz Kcl Kke (nI C) Anu Aba Amo Hsz Hce (nI u) (nI k) = some (Anu (srt K C k), Ksz', Kcl', Kke') := by
  obtain ⟨cl', ke', g1, g2⟩ := x_out hC hK 2147483648 0 Kcl Kke (by omega) (by omega) (fun j hj => by omega)
  have g1 : fX3_sort_L18 (nI C) (nI C) Anu Aba Amo Hsz Hce (nI u) 2147483648 Kcl Kke 0 = _ := g1
  refine ⟨nI C, cl', ke', ?_⟩
  unfold fX7_ranked
  rw [if_neg (nI_nl (by omega)), if_pos (show nI u ≤ (3 : Int32) from nI_le (b := 3) hu (by omega)), if_neg (nI_nl (by omega)), if_pos (show nI k < nI C from (nI_ltI (by omega) (by omega)).mpr hk)]
  unfold fX3_sort
  rw [if_neg (show ¬ (12 : Int32) < nI C by rw [lt_i, nI_toInt (by omega)]; have : (12 : Int32).toInt = 12 := rfl; omega), lts, g1, bd2_s, bd3_s]
  unfold fX3_clientAt
  rw [if_neg (nI_nl (by omega)), if_neg (nI_ge hk (by omega)), if_neg (show ¬ (12 : Int32) ≤ nI k from nI_ge (b := 12) (by omega) (by omega)), ckI_ok (show k < 12 by omega) (by omega), nI_clamp (by omega), (g2 k hk).1, bd1_s]
end SO
