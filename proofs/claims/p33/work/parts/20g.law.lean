/-! the law's own small functions -/
theorem low_nn (v : Int32) : 0 ≤ (v &&& 2147483647).toInt := by
  have e : (v &&& 2147483647).toBitVec = v.toBitVec &&& 2147483647#32 := rfl
  have hlt : (v.toBitVec &&& 2147483647#32).toNat < 2 ^ 31 := by
    rw [BitVec.toNat_and]
    exact Nat.lt_of_le_of_lt Nat.and_le_right (by decide)
  show 0 ≤ (v &&& 2147483647).toBitVec.toInt
  rw [e, BitVec.toInt_eq_toNat_of_lt (by omega)]
  omega
theorem remN {a n : Nat} (ha : a < 2 ^ 31) (hn : 1 ≤ n) (hn2 : n < 2 ^ 31) : nI a - nI a / nI n * nI n = nI (a % n) := by
  refine Int32.toInt_inj.mp ?_
  have en := nI_toInt hn2
  have h1 : a / n * n ≤ a := Nat.div_mul_le_self a n
  have h2 : a / n ≤ a := Nat.div_le_self a n
  have hd : (nI a / nI n).toInt = ((a / n : Nat) : Int) := by
    rw [Int32.toInt_div_of_ne_right _ _ (fun e => by have := congrArg Int32.toInt e; rw [en] at this; have e1 : (-1 : Int32).toInt = -1 := rfl; omega), nI_toInt ha, en]
    exact Int.tdiv_eq_ediv_of_nonneg (by omega)
  have hm : (nI a / nI n * nI n).toInt = ((a / n * n : Nat) : Int) := by
    rw [Int32.toInt_mul, hd, en]
    have : ((a / n : Nat) : Int) * (n : Int) = ((a / n * n : Nat) : Int) := by push_cast; rfl
    rw [this]
    exact Int.bmod_eq_of_le (by omega) (by omega)
  rw [sub_toInt (by rw [hm, nI_toInt ha]; omega) (by rw [hm, nI_toInt ha]; omega), hm, nI_toInt ha, nI_toInt (by have := Nat.mod_le a n; omega)]
  have h3 := Nat.div_add_mod a n
  have h4 : n * (a / n) = a / n * n := Nat.mul_comm _ _
  omega
theorem low_i (v : Int32) {n : Nat} (hn : 1 ≤ n) (hn2 : n < 2 ^ 31) : ∃ k, k < n ∧ fL_low v (nI n) = some (nI k) := by
  obtain ⟨a, e, -, ha⟩ := nneg_nI (low_nn v)
  refine ⟨a % n, Nat.mod_lt _ (by omega), ?_⟩
  unfold fL_low ckP
  rw [if_pos (fun e => by have := congrArg Int32.toInt e; rw [nI_toInt hn2, toInt_0] at this; omega), e, remN ha hn hn2]
section LH
variable {hh : Nat → Int32} {qq : Nat → Int32} {mm : Nat → Int64}
def heI (hh : Nat → Int32) (c : Nat) (d : Int32) : Int32 := sumI (fun k => decide (hh (3 * k) = nI c) && !decide (hh (3 * k + 2) < d)) (fun k => hh (3 * k + 1)) 20
theorem l_held_L (c : Nat) (d : Int32) : ∀ (n i : Nat), i ≤ 20 → 20 - i < n → fL_held_L5 hh (nI c) d n (sumI (fun k => decide (hh (3 * k) = nI c) && !decide (hh (3 * k + 2) < d)) (fun k => hh (3 * k + 1)) i) (nI (3 * i)) = some (heI hh c d) := by
  intro n
  induction n with
  | zero => intro i h1 h2; omega
  | succ n ih =>
    intro i h1 h2
    rw [fL_held_L5]
    by_cases e : i = 20
    · subst e
      rw [if_pos (show (60 : Int32) ≤ nI (3 * 20) by decide)]
      rfl
    · have k0 : ∀ {β : Type} (k : Option β), ckI (nI (3 * i)) 60 k = k := fun k => ckI_ok (by omega) (by omega)
      have k1 : ∀ {β : Type} (k : Option β), ckI (nI (3 * i) + 1) 60 k = k := fun k => by rw [nI_1]; exact ckI_ok (by omega) (by omega)
      have k2 : ∀ {β : Type} (k : Option β), ckI (nI (3 * i) + 2) 60 k = k := fun k => by rw [show nI (3 * i) + 2 = nI (3 * i + 2) from nI_add _ 2]; exact ckI_ok (by omega) (by omega)
      have c0 : (nI (3 * i)).toNatClampNeg = 3 * i := nI_clamp (by omega)
      have c1 : (nI (3 * i) + 1).toNatClampNeg = 3 * i + 1 := by rw [nI_1, nI_clamp (by omega)]
      have c2 : (nI (3 * i) + 2).toNatClampNeg = 3 * i + 2 := by rw [show nI (3 * i) + 2 = nI (3 * i + 2) from nI_add _ 2, nI_clamp (by omega)]
      have e3 : nI (3 * i) + 3 = nI (3 * (i + 1)) := by rw [show nI (3 * i) + 3 = nI (3 * i + 3) from nI_add _ 3, show 3 * i + 3 = 3 * (i + 1) by omega]
      rw [if_neg (show ¬ (60 : Int32) ≤ nI (3 * i) from nI_ge (b := 60) (by omega) (by omega))]
      simp only [k0, k1, k2, c0, c1, c2, e3, lts]
      have g := ih (i + 1) (by omega) (by omega)
      by_cases a : hh (3 * i) = nI c
      · rw [if_pos a]
        by_cases b : hh (3 * i + 2) < d
        · rw [if_pos b, Int32.add_zero]
          rw [sumI_s, if_neg (by simp [b])] at g
          exact g
        · rw [if_neg b]
          rw [sumI_s, if_pos (by simp [a, b])] at g
          exact g
      · rw [if_neg a, Int32.add_zero]
        rw [sumI_s, if_neg (by simp [a])] at g
        exact g
theorem l_held (c : Nat) (d : Int32) : fL_held hh (nI c) d = some (heI hh c d) := by
  have g := l_held_L (hh := hh) c d 2147483648 0 (by omega) (by omega)
  unfold fL_held
  rw [show nI (3 * 0) = 0 from rfl] at g
  rw [show sumI (fun k => decide (hh (3 * k) = nI c) && !decide (hh (3 * k + 2) < d)) (fun k => hh (3 * k + 1)) 0 = 0 from rfl] at g
  rw [g, bd1_s]
theorem he_hI {c dn : Nat} {d : Int32} (hc : 1 ≤ c) (hc2 : c < 2 ^ 31) (hd : d.toInt = dn) (h : ∀ k, k < 20 → pw hh k = true → (dn : Int) ≤ (hh (3 * k + 2)).toInt) : heI hh c d = hI hh c := by
  refine sumI_cong 20 (fun k hk => ⟨?_, fun _ => rfl⟩)
  by_cases a : hh (3 * k) = nI c
  · have hp : pw hh k = true := decide_eq_true (by rw [a, nI_toInt hc2]; omega)
    have := h k hk hp
    have b : ¬ hh (3 * k + 2) < d := by rw [lt_i]; omega
    simp [a, b]
  · simp [a]
theorem l_free {c dn : Nat} (hc : 1 ≤ c) (hc2 : c < 7) (h0 : qq 0 = nI dn) (hdn : dn ≤ 9999) (h : ∀ k, k < 20 → pw hh k = true → (dn : Int) ≤ (hh (3 * k + 2)).toInt) : fL_free mm qq hh (nI c) = some ((mm c).toInt32 - hI hh c) := by
  unfold fL_free
  rw [ckI_ok (by omega) (by omega), show ckI 0 18 _ = _ from ckI_ok (i := 0) (by omega) (by omega), l_held, bd1_s, nI_clamp (by omega), show (0 : Int32).toNatClampNeg = 0 from rfl, he_hI (dn := dn) hc (by omega) (by rw [h0, nI_toInt (by omega)]) h]
theorem l_clients_L : ∀ (n i : Nat), i ≤ 7 → 7 - i < n → fL_clients_L4 qq n (nI (rk (pq qq) i)) (nI i) = some (nI (rk (pq qq) 7)) := by
  intro n
  induction n with
  | zero => intro i h1 h2; omega
  | succ n ih =>
    intro i h1 h2
    rw [fL_clients_L4]
    by_cases e : i = 7
    · subst e
      rw [if_pos (show (7 : Int32) ≤ nI 7 from nI_le (a := 7) (by omega) (by omega))]
    · have k0 : ∀ {β : Type} (k : Option β), ckI (10 + nI i) 18 k = k := fun k => by
        rw [show (10 : Int32) + nI i = nI (10 + i) from nI_add 10 i]; exact ckI_ok (by omega) (by omega)
      have c0 : ((10 : Int32) + nI i).toNatClampNeg = 10 + i := by rw [show (10 : Int32) + nI i = nI (10 + i) from nI_add 10 i, nI_clamp (by omega)]
      rw [if_neg (show ¬ (7 : Int32) ≤ nI i from nI_ge (b := 7) (by omega) (by omega))]
      simp only [k0, c0, lts, nI_1]
      have g := ih (i + 1) (by omega) (by omega)
      cases hp : pq qq i with
      | true =>
        have h1 : (0 : Int) ≤ (qq (10 + i)).toInt := of_decide_eq_true hp
        rw [rk_s hp] at g
        first
          | rw [if_pos (show (0 : Int32) ≤ qq (10 + i) by rw [le_i, toInt_0]; exact h1)]; exact g
          | rw [if_neg (show ¬ qq (10 + i) < (0 : Int32) by rw [lt_i, toInt_0]; omega)]; exact g
      | false =>
        have h1 : ¬ (0 : Int) ≤ (qq (10 + i)).toInt := of_decide_eq_false hp
        rw [rk_f hp] at g
        first
          | rw [if_neg (show ¬ (0 : Int32) ≤ qq (10 + i) by rw [le_i, toInt_0]; exact h1), Int32.add_zero]; exact g
          | rw [if_pos (show qq (10 + i) < (0 : Int32) by rw [lt_i, toInt_0]; omega), Int32.add_zero]; exact g
theorem l_clients (h0 : pq qq 0 = false) : fL_clients qq = some (nI (rk (pq qq) 7)) := by
  have g := l_clients_L (qq := qq) 2147483648 1 (by omega) (by omega)
  unfold fL_clients
  rw [rk_f h0] at g
  have g : fL_clients_L4 qq 2147483648 0 1 = some (nI (rk (pq qq) 7)) := g
  rw [g, bd1_s]
theorem l_many_L {u7 u8 u10 u12 u14 u15 u16 : Int32} : ∀ (n i : Nat), i ≤ 20 → 20 - i < n → fL_law_L764 hh u7 u8 u10 u12 u14 u15 u16 n (nI (rk (pw hh) i)) (nI (3 * i)) = some (nI (rk (pw hh) 20)) := by
  intro n
  induction n with
  | zero => intro i h1 h2; omega
  | succ n ih =>
    intro i h1 h2
    rw [fL_law_L764]
    by_cases e : i = 20
    · subst e
      rw [if_pos (show (60 : Int32) ≤ nI (3 * 20) by decide)]
    · have k0 : ∀ {β : Type} (k : Option β), ckI (nI (3 * i)) 60 k = k := fun k => ckI_ok (by omega) (by omega)
      have k1 : ∀ {β : Type} (k : Option β), ckI (nI (3 * i) + 1) 60 k = k := fun k => by rw [nI_1]; exact ckI_ok (by omega) (by omega)
      have k2 : ∀ {β : Type} (k : Option β), ckI (nI (3 * i) + 2) 60 k = k := fun k => by rw [show nI (3 * i) + 2 = nI (3 * i + 2) from nI_add _ 2]; exact ckI_ok (by omega) (by omega)
      have c0 : (nI (3 * i)).toNatClampNeg = 3 * i := nI_clamp (by omega)
      have c1 : (nI (3 * i) + 1).toNatClampNeg = 3 * i + 1 := by rw [nI_1, nI_clamp (by omega)]
      have c2 : (nI (3 * i) + 2).toNatClampNeg = 3 * i + 2 := by rw [show nI (3 * i) + 2 = nI (3 * i + 2) from nI_add _ 2, nI_clamp (by omega)]
      have e3 : nI (3 * i) + 3 = nI (3 * (i + 1)) := by rw [show nI (3 * i) + 3 = nI (3 * i + 3) from nI_add _ 3, show 3 * i + 3 = 3 * (i + 1) by omega]
      rw [if_neg (show ¬ (60 : Int32) ≤ nI (3 * i) from nI_ge (b := 60) (by omega) (by omega))]
      simp only [k0, k1, k2, c0, c1, c2, e3, lts]
      have g := ih (i + 1) (by omega) (by omega)
      cases hp : pw hh i with
      | true =>
        rw [if_neg (show ¬ hh (3 * i) ≤ 0 by rw [le_i, toInt_0]; have := pw_t hp; omega), nI_1]
        rw [rk_s hp] at g
        exact g
      | false =>
        rw [if_pos (show hh (3 * i) ≤ 0 by rw [le_i, toInt_0]; have := pw_f hp; omega), Int32.add_zero]
        rw [rk_f hp] at g
        exact g
theorem l_many {u7 u8 u10 u12 u14 u15 u16 : Int32} : fL_law_L764 hh u7 u8 u10 u12 u14 u15 u16 2147483648 0 0 = some (nI (rk (pw hh) 20)) := l_many_L (hh := hh) 2147483648 0 (by omega) (by omega)
theorem l_manyB_L {u7 u8 u10 u12 u14 u15 : Int32} : ∀ (n i : Nat), i ≤ 20 → 20 - i < n → fL_law_L1029 hh u7 u8 u10 u12 u14 u15 n (nI (rk (pw hh) i)) (nI (3 * i)) = some (nI (rk (pw hh) 20)) := by
  intro n
  induction n with
  | zero => intro i h1 h2; omega
  | succ n ih =>
    intro i h1 h2
    rw [fL_law_L1029]
    by_cases e : i = 20
    · subst e
      rw [if_pos (show (60 : Int32) ≤ nI (3 * 20) by decide)]
    · have k0 : ∀ {β : Type} (k : Option β), ckI (nI (3 * i)) 60 k = k := fun k => ckI_ok (by omega) (by omega)
      have k1 : ∀ {β : Type} (k : Option β), ckI (nI (3 * i) + 1) 60 k = k := fun k => by rw [nI_1]; exact ckI_ok (by omega) (by omega)
      have k2 : ∀ {β : Type} (k : Option β), ckI (nI (3 * i) + 2) 60 k = k := fun k => by rw [show nI (3 * i) + 2 = nI (3 * i + 2) from nI_add _ 2]; exact ckI_ok (by omega) (by omega)
      have c0 : (nI (3 * i)).toNatClampNeg = 3 * i := nI_clamp (by omega)
      have c1 : (nI (3 * i) + 1).toNatClampNeg = 3 * i + 1 := by rw [nI_1, nI_clamp (by omega)]
      have c2 : (nI (3 * i) + 2).toNatClampNeg = 3 * i + 2 := by rw [show nI (3 * i) + 2 = nI (3 * i + 2) from nI_add _ 2, nI_clamp (by omega)]
      have e3 : nI (3 * i) + 3 = nI (3 * (i + 1)) := by rw [show nI (3 * i) + 3 = nI (3 * i + 3) from nI_add _ 3, show 3 * i + 3 = 3 * (i + 1) by omega]
      rw [if_neg (show ¬ (60 : Int32) ≤ nI (3 * i) from nI_ge (b := 60) (by omega) (by omega))]
      simp only [k0, k1, k2, c0, c1, c2, e3, lts]
      have g := ih (i + 1) (by omega) (by omega)
      cases hp : pw hh i with
      | true =>
        rw [if_neg (show ¬ hh (3 * i) ≤ 0 by rw [le_i, toInt_0]; have := pw_t hp; omega), nI_1]
        rw [rk_s hp] at g
        exact g
      | false =>
        rw [if_pos (show hh (3 * i) ≤ 0 by rw [le_i, toInt_0]; have := pw_f hp; omega), Int32.add_zero]
        rw [rk_f hp] at g
        exact g
theorem l_manyB {u7 u8 u10 u12 u14 u15 : Int32} : fL_law_L1029 hh u7 u8 u10 u12 u14 u15 2147483648 0 0 = some (nI (rk (pw hh) 20)) := l_manyB_L (hh := hh) 2147483648 0 (by omega) (by omega)
/-- is there a bill of the client? -/
theorem l_bills_L {u7 u8 u10 u14 : Int32} {c : Nat} : ∀ (n i : Nat) (z : Int32), i ≤ 20 → 20 - i < n → (z = 0 ∨ z = 1) → (z = 1 ↔ ∃ k, k < i ∧ hh (3 * k) = nI c) → ∃ z', fL_law_L2173 hh u7 u8 u10 (nI c) u14 n z (nI (3 * i)) = some z' ∧ (z' = 0 ∨ z' = 1) ∧ (z' = 1 ↔ ∃ k, k < 20 ∧ hh (3 * k) = nI c) := by
  intro n
  induction n with
  | zero => intro i z h1 h2; omega
  | succ n ih =>
    intro i z h1 h2 hz hi
    rw [fL_law_L2173]
    by_cases e : i = 20
    · subst e
      rw [if_pos (show (60 : Int32) ≤ nI (3 * 20) by decide)]
      exact ⟨z, rfl, hz, hi⟩
    · have k0 : ∀ {β : Type} (k : Option β), ckI (nI (3 * i)) 60 k = k := fun k => ckI_ok (by omega) (by omega)
      have k1 : ∀ {β : Type} (k : Option β), ckI (nI (3 * i) + 1) 60 k = k := fun k => by rw [nI_1]; exact ckI_ok (by omega) (by omega)
      have k2 : ∀ {β : Type} (k : Option β), ckI (nI (3 * i) + 2) 60 k = k := fun k => by rw [show nI (3 * i) + 2 = nI (3 * i + 2) from nI_add _ 2]; exact ckI_ok (by omega) (by omega)
      have c0 : (nI (3 * i)).toNatClampNeg = 3 * i := nI_clamp (by omega)
      have c1 : (nI (3 * i) + 1).toNatClampNeg = 3 * i + 1 := by rw [nI_1, nI_clamp (by omega)]
      have c2 : (nI (3 * i) + 2).toNatClampNeg = 3 * i + 2 := by rw [show nI (3 * i) + 2 = nI (3 * i + 2) from nI_add _ 2, nI_clamp (by omega)]
      have e3 : nI (3 * i) + 3 = nI (3 * (i + 1)) := by rw [show nI (3 * i) + 3 = nI (3 * i + 3) from nI_add _ 3, show 3 * i + 3 = 3 * (i + 1) by omega]
      rw [if_neg (show ¬ (60 : Int32) ≤ nI (3 * i) from nI_ge (b := 60) (by omega) (by omega))]
      simp only [k0, k1, k2, c0, c1, c2, e3, lts]
      by_cases q : z = 0
      · rw [if_pos q]
        have hno : ¬ ∃ k, k < i ∧ hh (3 * k) = nI c := fun g => by have := hi.mpr g; rw [q] at this; exact absurd this (by decide)
        by_cases a : hh (3 * i) = nI c
        · rw [if_pos a]
          exact ih (i + 1) 1 (by omega) (by omega) (Or.inr rfl) ⟨fun _ => ⟨i, by omega, a⟩, fun _ => rfl⟩
        · rw [if_neg a]
          refine ih (i + 1) 0 (by omega) (by omega) (Or.inl rfl) ⟨fun g => absurd g (by decide), fun ⟨k, g1, g2⟩ => ?_⟩
          by_cases w : k = i
          · subst w; exact absurd g2 a
          · exact absurd ⟨k, by omega, g2⟩ hno
      · rw [if_neg q]
        have h1' : z = 1 := hz.resolve_left q
        obtain ⟨k, g1, g2⟩ := hi.mp h1'
        exact ih (i + 1) 1 (by omega) (by omega) (Or.inr rfl) ⟨fun _ => ⟨k, by omega, g2⟩, fun _ => rfl⟩
theorem l_bills {u7 u8 u10 u14 : Int32} {c : Nat} : ∃ z', fL_law_L2173 hh u7 u8 u10 (nI c) u14 2147483648 0 0 = some z' ∧ (z' = 0 ∨ z' = 1) ∧ (z' = 1 ↔ ∃ k, k < 20 ∧ hh (3 * k) = nI c) :=
  l_bills_L 2147483648 0 0 (by omega) (by omega) (Or.inl rfl) ⟨fun g => absurd g (by decide), fun ⟨k, g1, _⟩ => absurd g1 (Nat.not_lt_zero _)⟩
end LH
/-- what is free of a client, on both sides -/
theorem x_freeAt {Asz Hsz Hla : Int32} {Anu Aba Amo Hce hh qq : Nat → Int32} {mm : Nat → Int64} {top : Nat} (hc : CLB Asz Anu Aba Amo mm qq) (hr : RWB Hsz Hla Hce hh top) {c : Nat} (h7 : c < 7) (hp : pq qq c = true) : fX5_freeAt Asz Anu Aba Hsz Hce (nI (rk (pq qq) c)) = some ((mm c).toInt32 - hI hh c) := by
  have hn := pq_ne hc h7 hp
  unfold fX5_freeAt
  rw [hc.1, X0_balanceAt (rk_lt hp h7) (rk7 _), bd1_s, X0_numberAt (rk_lt hp h7) (rk7 _), bd1_s, (hc.2.2.2 c h7 hp).1, rw_held hr hn.1 (by omega), bd1_s, (cl_bal hc h7 hp).1]
theorem fr_toInt {dn : Nat} {hh qq : Nat → Int32} {mm : Nat → Int64} (hi : CIB dn mm qq) (hr : RIB hh qq) (hh2 : HIB dn hh mm qq) {c : Nat} (h7 : c < 7) (hp : pq qq c = true) : ((mm c).toInt32 - hI hh c).toInt = (mm c).toInt - hz hh c ∧ 0 ≤ (mm c).toInt - hz hh c ∧ 0 ≤ hz hh c ∧ (mm c).toInt32.toInt = (mm c).toInt ∧ (mm c).toInt32.toInt64 = mm c ∧ (mm c).toInt ≤ 1000000000 ∧ 0 ≤ (mm c).toInt := by
  obtain ⟨i1, i2, -, -⟩ := hi c h7 hp
  obtain ⟨e1, e2, e3⟩ := hI_toInt hr c
  have hb := hh2.2 c h7 hp
  obtain ⟨d1, d2⟩ := dn64 (v := mm c) (by omega) (by omega)
  exact ⟨by rw [sub_toInt (by rw [d1, e1]; omega) (by rw [d1, e1]; omega), d1, e1], by omega, e2, d1, d2, i2, i1⟩
