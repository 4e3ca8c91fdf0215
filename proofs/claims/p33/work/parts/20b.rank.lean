/-! ranks: how many there are below -/
theorem lit_40 : (40 : Int32) = nI 40 := rfl
def rk (P : Nat → Bool) : Nat → Nat
  | 0 => 0
  | n + 1 => if P n = true then rk P n + 1 else rk P n
theorem rk_s {P : Nat → Bool} {n : Nat} (h : P n = true) : rk P (n + 1) = rk P n + 1 := by rw [rk, if_pos h]
theorem rk_f {P : Nat → Bool} {n : Nat} (h : P n = false) : rk P (n + 1) = rk P n := by rw [rk, if_neg (by rw [h]; decide)]
theorem rk_st (P : Nat → Bool) (n : Nat) : rk P n ≤ rk P (n + 1) := by
  cases h : P n with
  | true => rw [rk_s h]; omega
  | false => rw [rk_f h]; exact Nat.le_refl _
theorem rk_le {P : Nat → Bool} {a b : Nat} (h : a ≤ b) : rk P a ≤ rk P b := by
  induction h with
  | refl => exact Nat.le_refl _
  | step _ ih => exact Nat.le_trans ih (rk_st P _)
theorem rk_lt {P : Nat → Bool} {a b : Nat} (ha : P a = true) (h : a < b) : rk P a < rk P b := by
  have := rk_le (P := P) (show a + 1 ≤ b from h)
  rw [rk_s ha] at this
  omega
theorem rk_inj {P : Nat → Bool} {a b : Nat} (ha : P a = true) (hb : P b = true) (e : rk P a = rk P b) : a = b := by
  rcases Nat.lt_trichotomy a b with h | h | h
  · have := rk_lt ha h; omega
  · exact h
  · have := rk_lt hb h; omega
theorem rk_surj {P : Nat → Bool} : ∀ {n j : Nat}, j < rk P n → ∃ k, k < n ∧ P k = true ∧ rk P k = j := by
  intro n
  induction n with
  | zero => intro j h; exact absurd h (Nat.not_lt_zero _)
  | succ n ih =>
    intro j h
    cases hp : P n with
    | true =>
      rw [rk_s hp] at h
      by_cases e : j = rk P n
      · exact ⟨n, by omega, hp, e.symm⟩
      · obtain ⟨k, h1, h2, h3⟩ := ih (j := j) (by omega)
        exact ⟨k, by omega, h2, h3⟩
    | false =>
      rw [rk_f hp] at h
      obtain ⟨k, h1, h2, h3⟩ := ih h
      exact ⟨k, by omega, h2, h3⟩
theorem rk_cong {P Q : Nat → Bool} : ∀ n, (∀ k, k < n → P k = Q k) → rk P n = rk Q n
  | 0, _ => rfl
  | n + 1, h => by
    rw [rk, rk, rk_cong n (fun k hk => h k (by omega)), h n (by omega)]
theorem rk_bd (P : Nat → Bool) : ∀ n, rk P n ≤ n
  | 0 => Nat.le_refl _
  | n + 1 => by
    have := rk_bd P n
    cases h : P n with
    | true => rw [rk_s h]; omega
    | false => rw [rk_f h]; omega
/-- one taken away -/
theorem rk_rm {P Q : Nat → Bool} {g N : Nat} (hg : P g = true) (hgN : g < N) (h : ∀ k, k < N → Q k = (P k && !decide (k = g))) : ∀ n, n ≤ N → (n ≤ g → rk Q n = rk P n) ∧ (g < n → rk Q n + 1 = rk P n) := by
  intro n
  induction n with
  | zero => intro _; exact ⟨fun _ => rfl, fun h => absurd h (Nat.not_lt_zero _)⟩
  | succ n ih =>
    intro hn
    obtain ⟨h1, h2⟩ := ih (by omega)
    have e := h n (by omega)
    refine ⟨fun hl => ?_, fun hl => ?_⟩
    · have : ¬ n = g := by omega
      have e : Q n = P n := by rw [e]; simp [this]
      cases hp : P n with
      | true => rw [rk_s hp, rk_s (by rw [e, hp]), h1 (by omega)]
      | false => rw [rk_f hp, rk_f (by rw [e, hp]), h1 (by omega)]
    · by_cases c : n = g
      · subst c
        rw [rk_s hg, rk_f (by rw [e]; simp), h1 (Nat.le_refl _)]
      · have e : Q n = P n := by rw [e]; simp [c]
        have := h2 (by omega)
        cases hp : P n with
        | true => rw [rk_s hp, rk_s (by rw [e, hp])]; omega
        | false => rw [rk_f hp, rk_f (by rw [e, hp])]; omega
/-- one put in -/
theorem rk_in {P Q : Nat → Bool} {g N : Nat} (hg : P g = false) (hgN : g < N) (h : ∀ k, k < N → Q k = (P k || decide (k = g))) : ∀ n, n ≤ N → (n ≤ g → rk Q n = rk P n) ∧ (g < n → rk Q n = rk P n + 1) := by
  intro n hn
  have q : ∀ k, k < N → P k = (Q k && !decide (k = g)) := fun k hk => by
    rw [h k hk]
    by_cases c : k = g
    · subst c; rw [hg]; simp
    · simp [c]
  have := rk_rm (P := Q) (Q := P) (g := g) (N := N) (by rw [h g hgN]; simp) hgN q n hn
  exact ⟨fun hl => (this.1 hl).symm, fun hl => (this.2 hl).symm⟩
theorem sumI_s (t : Nat → Bool) (a : Nat → Int32) (n : Nat) : sumI t a (n + 1) = if t n then sumI t a n + a n else sumI t a n := rfl
theorem sumZ_s (t : Nat → Bool) (a : Nat → Int32) (n : Nat) : sumZ t a (n + 1) = if t n then sumZ t a n + (a n).toInt else sumZ t a n := rfl
theorem sumL_e (a : Nat → Int64) (n : Nat) : sumL a (n + 1) = sumL a n + a n := rfl
theorem sum_rk {P t u : Nat → Bool} {a b : Nat → Int32} : ∀ n, (∀ k, k < n → P k = true → u (rk P k) = t k ∧ (t k = true → b (rk P k) = a k)) → (∀ k, k < n → P k = false → t k = false) → sumI u b (rk P n) = sumI t a n
  | 0, _, _ => rfl
  | n + 1, h, g => by
    have ih := sum_rk n (fun k hk => h k (by omega)) (fun k hk => g k (by omega))
    cases hp : P n with
    | true =>
      obtain ⟨h1, h2⟩ := h n (by omega) hp
      rw [rk_s hp, sumI_s, sumI_s, ih, h1]
      by_cases c : t n = true
      · rw [if_pos c, if_pos c, h2 c]
      · rw [if_neg c, if_neg c]
    | false =>
      rw [rk_f hp, ih, sumI_s, g n (by omega) hp]
      rfl
/-- the longs of those that are there -/
def sumC (t : Nat → Bool) (a : Nat → Int64) : Nat → Int64
  | 0 => 0
  | n + 1 => if t n then sumC t a n + a n else sumC t a n
theorem sumC_s (t : Nat → Bool) (a : Nat → Int64) (n : Nat) : sumC t a (n + 1) = if t n then sumC t a n + a n else sumC t a n := rfl
theorem sumC_cong {t u : Nat → Bool} {a b : Nat → Int64} : ∀ (n : Nat), (∀ i, i < n → t i = u i ∧ (t i = true → a i = b i)) → sumC t a n = sumC u b n
  | 0, _ => rfl
  | n + 1, h => by
    have e := sumC_cong n (fun i hi => h i (by omega))
    obtain ⟨h1, h2⟩ := h n (by omega)
    rw [sumC_s, sumC_s, e, ← h1]
    by_cases c : t n = true
    · rw [if_pos c, if_pos c, h2 c]
    · rw [if_neg c, if_neg c]
theorem sumL_rk {P : Nat → Bool} {a b : Nat → Int64} : ∀ n, (∀ k, k < n → P k = true → b (rk P k) = a k) → sumL b (rk P n) = sumC P a n
  | 0, _ => rfl
  | n + 1, h => by
    have ih := sumL_rk n (fun k hk => h k (by omega))
    cases hp : P n with
    | true => rw [rk_s hp, sumL_e, sumC_s, ih, if_pos hp, h n (by omega) hp]
    | false => rw [rk_f hp, ih, sumC_s, if_neg (by rw [hp]; decide)]
/-- one summand is changed -/
theorem sumC_up {t : Nat → Bool} {a b : Nat → Int64} {c : Nat} {v : Int64} (hc : t c = true) (hb : b c = a c + v) (ho : ∀ k, k ≠ c → b k = a k) : ∀ n, c < n → sumC t b n = sumC t a n + v
  | 0, h => absurd h (Nat.not_lt_zero _)
  | n + 1, h => by
    rw [sumC_s, sumC_s]
    by_cases e : n = c
    · subst e
      rw [if_pos hc, if_pos hc, hb, sumC_cong (b := a) n (fun i hi => ⟨rfl, fun _ => ho i (by omega)⟩), Int64.add_assoc]
    · have ih := sumC_up (v := v) hc hb ho n (by omega)
      cases hp : t n with
      | true => rw [if_pos rfl, if_pos rfl, ih, ho n e, Int64.add_assoc, Int64.add_assoc, Int64.add_comm v]
      | false => rw [if_neg (by decide), if_neg (by decide), ih]
/-- one summand that is new or gone -/
theorem sumC_new {t u : Nat → Bool} {a b : Nat → Int64} {c N : Nat} (h0 : t c = false) (h1 : u c = true) (hb : b c = 0) (ho : ∀ k, k < N → k ≠ c → u k = t k ∧ b k = a k) : ∀ n, n ≤ N → sumC u b n = sumC t a n
  | 0, _ => rfl
  | n + 1, h => by
    have ih := sumC_new h0 h1 hb ho n (by omega)
    rw [sumC_s, sumC_s, ih]
    by_cases e : n = c
    · subst e
      rw [if_pos h1, if_neg (by rw [h0]; decide), hb, Int64.add_zero]
    · obtain ⟨e1, e2⟩ := ho n (by omega) e
      rw [e1, e2]
theorem sum_toInt20 {t : Nat → Bool} {a : Nat → Int32} : ∀ (n : Nat), n ≤ 20 → (∀ i, i < n → 0 ≤ (a i).toInt ∧ (a i).toInt ≤ 100000000) → (sumI t a n).toInt = sumZ t a n ∧ 0 ≤ sumZ t a n ∧ sumZ t a n ≤ 100000000 * n
  | 0, _, _ => ⟨rfl, Int.le_refl _, Int.le_refl _⟩
  | n + 1, hn, h => by
    obtain ⟨h1, h2, h3⟩ := sum_toInt20 (t := t) n (by omega) (fun i hi => h i (by omega))
    have hx := h n (by omega)
    rw [sumI_s, sumZ_s]
    by_cases c : t n = true
    · rw [if_pos c, if_pos c, add_toInt (by omega) (by omega)]
      push_cast
      omega
    · rw [if_neg c, if_neg c]
      push_cast
      omega
