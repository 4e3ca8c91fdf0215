/-! forecasts: an account from day to day -/
def acc (lim low hig thr : Int32) (dn : Nat) (b : Int32) (t : Int64) : Nat → Int32 × Int64
  | 0 => (b, t)
  | k + 1 => ((acc lim low hig thr dn b t k).1 + sR lim low hig thr (dn + (k + 1)) (acc lim low hig thr dn b t k).1 (acc lim low hig thr dn b t k).2, (acc lim low hig thr dn b t k).2 + growL lim low hig (acc lim low hig thr dn b t k).1 + -3650000 * (sR lim low hig thr (dn + (k + 1)) (acc lim low hig thr dn b t k).1 (acc lim low hig thr dn b t k).2).toInt64)
theorem i32_m1 (a b r : Int32) : a - b + r = a + r - b := by grind
section FC
variable {lim low hig thr : Int32} {dn : Nat} {b : Int32} {t : Int64}
theorem acc_b (hg : RG lim low hig thr) (hdn : dn ≤ 3000) (hb : 0 ≤ b.toInt ∧ b.toInt ≤ 1000000000) (ht : 0 ≤ t.toInt ∧ t.toInt ≤ 2000000000000 * (dn : Int)) : ∀ k, k ≤ 1000 → (0 ≤ (acc lim low hig thr dn b t k).1.toInt ∧ (acc lim low hig thr dn b t k).1.toInt ≤ 1000000000) ∧ (0 ≤ (acc lim low hig thr dn b t k).2.toInt ∧ (acc lim low hig thr dn b t k).2.toInt ≤ 2000000000000 * ((dn + k : Nat) : Int)) := by
  intro k
  induction k with
  | zero => intro _; exact ⟨hb, ht⟩
  | succ k ih =>
    intro hk
    obtain ⟨h1, h2⟩ := ih (by omega)
    have s := sR_b (next := dn + (k + 1)) hg (show dn + k ≤ 11000 by omega) h1 h2
    show (0 ≤ ((acc lim low hig thr dn b t k).1 + sR lim low hig thr (dn + (k + 1)) (acc lim low hig thr dn b t k).1 (acc lim low hig thr dn b t k).2).toInt ∧ _) ∧ _
    refine ⟨⟨by omega, s.2.2.2.1⟩, s.2.2.2.2.2.1, ?_⟩
    have := s.2.2.2.2.2.2
    push_cast at this ⊢
    exact Int.le_trans this (by omega)
/-- what is credited on the way from day k to the next -/
def accR (lim low hig thr : Int32) (dn : Nat) (b : Int32) (t : Int64) (k : Nat) : Int32 := sR lim low hig thr (dn + (k + 1)) (acc lim low hig thr dn b t k).1 (acc lim low hig thr dn b t k).2
theorem acc_64 (hg : RG lim low hig thr) (hdn : dn ≤ 3000) (hb : 0 ≤ b.toInt ∧ b.toInt ≤ 1000000000) (ht : 0 ≤ t.toInt ∧ t.toInt ≤ 2000000000000 * (dn : Int)) (k : Nat) (hk : k ≤ 900) : (acc lim low hig thr dn b t (k + 1)).1.toInt64 = (acc lim low hig thr dn b t k).1.toInt64 + (accR lim low hig thr dn b t k).toInt64 := by
  obtain ⟨h1, h2⟩ := acc_b hg hdn hb ht k (by omega)
  exact (sR_b (next := dn + (k + 1)) hg (show dn + k ≤ 11000 by omega) h1 h2).2.2.2.2.1
/-- no credit between two days -/
theorem acc_gap (hdn : dn ≤ 3000) {k0 : Nat} : ∀ m, dn + k0 + m ≤ 20000 → (∀ j, j < m → ¬ (dn + k0 + j + 1) % 30 = 0) → (acc lim low hig thr dn b t (k0 + m)).1 = (acc lim low hig thr dn b t k0).1 ∧ (acc lim low hig thr dn b t (k0 + m)).2 = (acc lim low hig thr dn b t k0).2 + growL lim low hig (acc lim low hig thr dn b t k0).1 * (nI (dn + k0 + m) - nI (dn + k0)).toInt64 := by
  intro m
  induction m with
  | zero => intro _ _; exact ⟨rfl, by rw [Nat.add_zero, Nat.add_zero, gap0]⟩
  | succ m ih =>
    intro hk hno
    obtain ⟨e1, e2⟩ := ih (by omega) (fun j hj => hno j (by omega))
    have r0 : sR lim low hig thr (dn + (k0 + m + 1)) (acc lim low hig thr dn b t (k0 + m)).1 (acc lim low hig thr dn b t (k0 + m)).2 = 0 := by
      unfold sR
      rw [if_neg (by have := hno m (by omega); rw [show dn + (k0 + m + 1) = dn + k0 + m + 1 by omega]; exact this)]
    have u1 : (acc lim low hig thr dn b t (k0 + (m + 1))).1 = (acc lim low hig thr dn b t (k0 + m)).1 + sR lim low hig thr (dn + (k0 + m + 1)) (acc lim low hig thr dn b t (k0 + m)).1 (acc lim low hig thr dn b t (k0 + m)).2 := rfl
    have u2 : (acc lim low hig thr dn b t (k0 + (m + 1))).2 = (acc lim low hig thr dn b t (k0 + m)).2 + growL lim low hig (acc lim low hig thr dn b t (k0 + m)).1 + -3650000 * (sR lim low hig thr (dn + (k0 + m + 1)) (acc lim low hig thr dn b t (k0 + m)).1 (acc lim low hig thr dn b t (k0 + m)).2).toInt64 := rfl
    rw [u1, u2, r0, Int32.add_zero, z64, Int64.mul_zero, Int64.add_zero, e1, e2]
    refine ⟨rfl, ?_⟩
    rw [show dn + k0 + (m + 1) = (dn + k0 + m) + 1 by omega, gapS (by omega) (by omega), Int64.add_assoc]
/-- the class: interest ahead -/
theorem ahead_L (hg : RG lim low hig thr) (hdn : dn ≤ 3000) (hb : 0 ≤ b.toInt ∧ b.toInt ≤ 1000000000) (ht : 0 ≤ t.toInt ∧ t.toInt ≤ 2000000000000 * (dn : Int)) {p : Nat} (hp : p ≤ 400) : ∀ (n k0 z : Nat), k0 ≤ p → dn + k0 < z → z % 30 = 0 → z ≤ dn + k0 + 30 → p - k0 < n → ∀ s : Int32, s = (acc lim low hig thr dn b t k0).1 - b → fX5_interestAhead_L37 (nI dn) lim low hig thr (nI p) n (acc lim low hig thr dn b t k0).1 (acc lim low hig thr dn b t k0).2 s (nI (dn + k0)) (nI z) = some ((acc lim low hig thr dn b t p).1 - b) := by
  intro n
  induction n with
  | zero => intro k0 z h1 h2 h3 h4 h5; omega
  | succ n ih =>
    intro k0 z h1 h2 h3 h4 h5 s hs
    rw [fX5_interestAhead_L37, nI_add]
    by_cases e : dn + p < z
    · rw [if_pos ((nI_ltI (by omega) (by omega)).mpr e)]
      have g := (acc_gap (lim := lim) (low := low) (hig := hig) (thr := thr) (b := b) (t := t) hdn (k0 := k0) (p - k0) (by omega) (fun j hj => by omega)).1
      rw [show k0 + (p - k0) = p by omega] at g
      rw [hs, g]
    · rw [if_neg (fun q => e ((nI_ltI (by omega) (by omega)).mp q))]
      obtain ⟨m, em⟩ : ∃ m, z = dn + k0 + m + 1 := ⟨z - dn - k0 - 1, by omega⟩
      obtain ⟨g1, g2⟩ := acc_gap (lim := lim) (low := low) (hig := hig) (thr := thr) (b := b) (t := t) hdn (k0 := k0) m (by omega) (fun j hj => by omega)
      have eT : (acc lim low hig thr dn b t k0).2 + growL lim low hig (acc lim low hig thr dn b t k0).1 * (nI z - nI (dn + k0)).toInt64 = (acc lim low hig thr dn b t (k0 + m)).2 + growL lim low hig (acc lim low hig thr dn b t (k0 + m)).1 := by
        rw [em, gapS (by omega) (by omega), g1, g2, Int64.add_assoc]
      have er : crI thr (acc lim low hig thr dn b t k0).1 ((acc lim low hig thr dn b t (k0 + m)).2 + growL lim low hig (acc lim low hig thr dn b t (k0 + m)).1) = sR lim low hig thr (dn + (k0 + m + 1)) (acc lim low hig thr dn b t (k0 + m)).1 (acc lim low hig thr dn b t (k0 + m)).2 := by
        unfold sR
        rw [if_pos (by rw [show dn + (k0 + m + 1) = z by omega]; exact h3), g1]
      have u1 : (acc lim low hig thr dn b t (k0 + m + 1)).1 = (acc lim low hig thr dn b t (k0 + m)).1 + sR lim low hig thr (dn + (k0 + m + 1)) (acc lim low hig thr dn b t (k0 + m)).1 (acc lim low hig thr dn b t (k0 + m)).2 := rfl
      have u2 : (acc lim low hig thr dn b t (k0 + m + 1)).2 = (acc lim low hig thr dn b t (k0 + m)).2 + growL lim low hig (acc lim low hig thr dn b t (k0 + m)).1 + -3650000 * (sR lim low hig thr (dn + (k0 + m + 1)) (acc lim low hig thr dn b t (k0 + m)).1 (acc lim low hig thr dn b t (k0 + m)).2).toInt64 := rfl
      rw [growth_i, bd1_s, lts, eT, interest_i, bd1_s, lts, lts, lts, er, sub3650, ← u2, show nI z + 30 = nI (z + 30) from nI_add z 30]
      have v1 : (acc lim low hig thr dn b t k0).1 + sR lim low hig thr (dn + (k0 + m + 1)) (acc lim low hig thr dn b t (k0 + m)).1 (acc lim low hig thr dn b t (k0 + m)).2 = (acc lim low hig thr dn b t (k0 + m + 1)).1 := by rw [u1, g1]
      rw [v1]
      have ez : z = dn + (k0 + m + 1) := by omega
      have g := ih (k0 + m + 1) (z + 30) (by omega) (by omega) (by omega) (by omega) (by omega) (s + sR lim low hig thr (dn + (k0 + m + 1)) (acc lim low hig thr dn b t (k0 + m)).1 (acc lim low hig thr dn b t (k0 + m)).2) (by rw [hs, ← v1]; exact i32_m1 _ _ _)
      subst ez
      exact g
theorem nextCredit_i {d : Nat} (hd : d < 2 ^ 30) : fX7_nextCreditDay (nI d) = some (nI (d - d % 30 + 30)) := by
  have e := i32_div30 (d := d) (by omega)
  have hm : d % 30 ≤ d := Nat.mod_le _ _
  unfold fX7_nextCreditDay
  rw [e, nI_sub hm, show nI (d - d % 30) + 30 = nI (d - d % 30 + 30) from nI_add _ 30]
/-- the days on which the amount is free -/
def pD (hh : Nat → Int32) (c : Nat) (am lim low hig thr : Int32) (dn : Nat) (b : Int32) (t : Int64) (k : Nat) : Bool := !decide ((acc lim low hig thr dn b t k).1 - heI hh c (nI (dn + k)) < am)
def wN (hh : Nat → Int32) (c : Nat) (am lim low hig thr : Int32) (dn : Nat) (b : Int32) (t : Int64) : Nat → Int32
  | 0 => -6
  | k + 1 => if 0 ≤ wN hh c am lim low hig thr dn b t k then wN hh c am lim low hig thr dn b t k else if pD hh c am lim low hig thr dn b t k = true then nI (dn + k) else -6
theorem wN_stay {hh : Nat → Int32} {c : Nat} {am : Int32} {k : Nat} (h : 0 ≤ wN hh c am lim low hig thr dn b t k) : ∀ m, wN hh c am lim low hig thr dn b t (k + m) = wN hh c am lim low hig thr dn b t k
  | 0 => rfl
  | m + 1 => by
    have ih := wN_stay h m
    show (if 0 ≤ wN hh c am lim low hig thr dn b t (k + m) then wN hh c am lim low hig thr dn b t (k + m) else _) = _
    rw [ih, if_pos h]
theorem heldOn_i {Hsz Hla : Int32} {Hce hh : Nat → Int32} {top : Nat} (hr : RWB Hsz Hla Hce hh top) {c : Nat} (hc : 1 ≤ c) (hc2 : c < 2 ^ 31) (d : Int32) : fX5_heldOn Hsz Hce (nI c) d = some (heI hh c d) := by
  unfold fX5_heldOn
  have hR15 := hr.2.1
  have g := X5_heldOn_L (R := rk (pw hh) 20) hr.2.1 Hce (nI c) d 2147483648 0 (by omega) (by omega)
  rw [nI_0, ← hr.1] at g
  have g : fX5_heldOn_L5 Hsz Hce (nI c) d 2147483648 0 0 = _ := g
  rw [g, bd1_s]
  refine congrArg some ?_
  refine sum_rk 20 (fun k hk hp => ⟨?_, fun _ => (hr.2.2.2.2 k hk hp).2.2.2.1⟩) (fun k _ hp => by rw [slt_ne hp hc hc2]; rfl)
  have w := hr.2.2.2.2 k hk hp
  simp only [w.2.2.1, w.2.2.2.2]
/-- the class: the first day -/
theorem first_L {Hsz Hla : Int32} {Hce hh : Nat → Int32} {top : Nat} (hr : RWB Hsz Hla Hce hh top) {c : Nat} (hc : 1 ≤ c) (hc2 : c < 2 ^ 31) (hdn : dn ≤ 3000) (am : Int32) : ∀ (n k : Nat), k ≤ 401 → 401 - k < n → wN hh c am lim low hig thr dn b t k = -6 → ∃ o, fX5_firstDayWithFree_L32 Hsz Hce (nI dn) lim low hig thr am (nI c) n (acc lim low hig thr dn b t (k - 1)).1 (acc lim low hig thr dn b t (k - 1)).2 (nI k) = some o ∧ ((∃ r, o = .inl r ∧ r = wN hh c am lim low hig thr dn b t 401) ∨ (o = .inr () ∧ wN hh c am lim low hig thr dn b t 401 = -6)) := by
  intro n
  induction n with
  | zero => intro k h1 h2; omega
  | succ n ih =>
    intro k h1 h2 hw
    rw [fX5_firstDayWithFree_L32]
    by_cases e : k = 401
    · subst e
      rw [if_pos (show (400 : Int32) < nI 401 by decide)]
      exact ⟨_, rfl, Or.inr ⟨rfl, hw⟩⟩
    · rw [if_neg (show ¬ (400 : Int32) < nI k from fun q => by have := (nI_ltI (a := 400) (by omega) (by omega)).mp q; omega), lts, nI_add]
      have hstep : wN hh c am lim low hig thr dn b t (k + 1) = if pD hh c am lim low hig thr dn b t k = true then nI (dn + k) else -6 := by
        show (if 0 ≤ wN hh c am lim low hig thr dn b t k then _ else _) = _
        rw [hw, if_neg (by decide)]
      have main : ∃ o, (if (acc lim low hig thr dn b t k).1 - heI hh c (nI (dn + k)) < am then fX5_firstDayWithFree_L32 Hsz Hce (nI dn) lim low hig thr am (nI c) n (acc lim low hig thr dn b t k).1 (acc lim low hig thr dn b t k).2 (nI (k + 1)) else some (.inl (nI (dn + k)))) = some o ∧ ((∃ r, o = .inl r ∧ r = wN hh c am lim low hig thr dn b t 401) ∨ (o = .inr () ∧ wN hh c am lim low hig thr dn b t 401 = -6)) := by
        by_cases q : (acc lim low hig thr dn b t k).1 - heI hh c (nI (dn + k)) < am
        · rw [if_pos q]
          exact ih (k + 1) (by omega) (by omega) (by rw [hstep, if_neg (by unfold pD; simp [q])])
        · rw [if_neg q]
          rw [if_pos (by unfold pD; simp [q])] at hstep
          refine ⟨_, rfl, Or.inl ⟨_, rfl, ?_⟩⟩
          have st := wN_stay (hh := hh) (c := c) (am := am) (lim := lim) (low := low) (hig := hig) (thr := thr) (dn := dn) (b := b) (t := t) (k := k + 1) (by rw [hstep]; exact nI_nn (by omega)) (400 - k)
          rw [show k + 1 + (400 - k) = 401 by omega, hstep] at st
          exact st.symm
      by_cases z : k = 0
      · subst z
        rw [if_pos (show nI 0 ≤ 0 by decide), heldOn_i hr hc hc2, bd1_s, nI_1]
        exact main
      · have z0 : ¬ nI k ≤ 0 := by rw [le_i, nI_toInt (by omega), toInt_0]; omega
        obtain ⟨m, em⟩ : ∃ m, k = m + 1 := ⟨k - 1, by omega⟩
        subst em
        rw [if_neg z0, growth_i, bd1_s, lts, Nat.add_sub_cancel, nI_1]
        have u1 : (acc lim low hig thr dn b t (m + 1)).1 = (acc lim low hig thr dn b t m).1 + sR lim low hig thr (dn + (m + 1)) (acc lim low hig thr dn b t m).1 (acc lim low hig thr dn b t m).2 := rfl
        have u2 : (acc lim low hig thr dn b t (m + 1)).2 = (acc lim low hig thr dn b t m).2 + growL lim low hig (acc lim low hig thr dn b t m).1 + -3650000 * (sR lim low hig thr (dn + (m + 1)) (acc lim low hig thr dn b t m).1 (acc lim low hig thr dn b t m).2).toInt64 := rfl
        have e30 := i32_div30 (d := dn + (m + 1)) (by omega)
        have hm30 : (dn + (m + 1)) % 30 < 30 := Nat.mod_lt _ (by omega)
        rw [e30]
        by_cases w : (dn + (m + 1)) % 30 = 0
        · have rr : sR lim low hig thr (dn + (m + 1)) (acc lim low hig thr dn b t m).1 (acc lim low hig thr dn b t m).2 = crI thr (acc lim low hig thr dn b t m).1 ((acc lim low hig thr dn b t m).2 + growL lim low hig (acc lim low hig thr dn b t m).1) := by unfold sR; rw [if_pos w]
          rw [w, if_pos (show nI 0 = 0 from rfl), interest_i, bd1_s, lts, lts, ← rr, ← u1, sub3650, ← u2, heldOn_i hr hc hc2, bd1_s]
          exact main
        · have rr : sR lim low hig thr (dn + (m + 1)) (acc lim low hig thr dn b t m).1 (acc lim low hig thr dn b t m).2 = 0 := by unfold sR; rw [if_neg w]
          rw [rr, Int32.add_zero] at u1
          rw [rr, z64, Int64.mul_zero, Int64.add_zero] at u2
          rw [if_neg (show ¬ nI ((dn + (m + 1)) % 30) = 0 from fun q => w (nI_inj (b := 0) (by omega) (by omega) q)), heldOn_i hr hc hc2, bd1_s, ← u2, ← u1]
          exact main
end FC
