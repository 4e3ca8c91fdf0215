/-! the pure side, v: sums and the text -/
theorem sumBal_L {C : Nat} (hC : C ≤ 12) (ba : Nat → Int32) : ∀ (n z : Nat), z ≤ C → C - z < n → fX0_sumOfBalances_L4 (nI C) ba n (sumL (fun i => (ba i).toInt64) z) (nI z) = some (sumL (fun i => (ba i).toInt64) C) := by
  intro n
  induction n with
  | zero => intro z h1 h2; omega
  | succ n ih =>
    intro z h1 h2
    rw [fX0_sumOfBalances_L4]
    by_cases e : z = C
    · subst e; rw [if_pos (nI_le (by omega) (by omega))]
    · rw [if_neg (nI_ge (by omega) (by omega)), X0_balanceAt (by omega) hC, bd1_s, lts, nI_1]
      exact ih (z + 1) (by omega) (by omega)
theorem sumM0_L {C : Nat} (hC : C ≤ 12) {st : Nat → Int32} (h5 : st 5 = nI C) : ∀ (n z : Nat), z ≤ C → C - z < n → fX8_sumOf_L22 st 0 n (sumL (fun i => (st (13 + 3 * i)).toInt64) z) (nI z) = some (sumL (fun i => (st (13 + 3 * i)).toInt64) C) := by
  intro n
  induction n with
  | zero => intro z h1 h2; omega
  | succ n ih =>
    intro z h1 h2
    rw [fX8_sumOf_L22, show ckI 5 336 _ = _ from ckI_ok (i := 5) (by omega) (by omega), show (5 : Int32).toNatClampNeg = 5 from rfl, h5]
    by_cases e : z = C
    · subst e; rw [if_pos (nI_le (by omega) (by omega))]
    · have p1 : fX8_part st (nI z) 1 = some (st (13 + 3 * z)) := by
        have e : fX8_part st (nI z) 1 = _ := M_part (c := z) (k := 1) (by omega) st
        rw [e, show 12 + 3 * z + 1 = 13 + 3 * z by omega]
      rw [if_neg (nI_ge (by omega) (by omega)), if_pos rfl, p1, bd1_s, lts, nI_1]
      exact ih (z + 1) (by omega) (by omega)
theorem sumM1_L {C : Nat} (hC : C ≤ 12) {st : Nat → Int32} (h5 : st 5 = nI C) {f : Nat → Int32} (hf : ∀ i, i < C → fX8_held st (nI i) = some (f i)) : ∀ (n z : Nat), z ≤ C → C - z < n → fX8_sumOf_L22 st 1 n (sumL (fun i => (f i).toInt64) z) (nI z) = some (sumL (fun i => (f i).toInt64) C) := by
  intro n
  induction n with
  | zero => intro z h1 h2; omega
  | succ n ih =>
    intro z h1 h2
    rw [fX8_sumOf_L22, show ckI 5 336 _ = _ from ckI_ok (i := 5) (by omega) (by omega), show (5 : Int32).toNatClampNeg = 5 from rfl, h5]
    by_cases e : z = C
    · subst e; rw [if_pos (nI_le (by omega) (by omega))]
    · rw [if_neg (nI_ge (by omega) (by omega)), if_neg n10, hf z (by omega), bd1_s, lts, nI_1]
      exact ih (z + 1) (by omega) (by omega)
theorem sumL_toInt {a : Nat → Int64} {m : Int} (hm : 0 ≤ m) (hm2 : m ≤ 10000000000) : ∀ (n : Nat), n ≤ 20 → (∀ i, i < n → 0 ≤ (a i).toInt ∧ (a i).toInt ≤ m) → ∃ S : Int, (sumL a n).toInt = S ∧ 0 ≤ S ∧ S ≤ m * n ∧ (∀ k, k < n → (sumL a (k + 1)).toInt = (sumL a k).toInt + (a k).toInt)
  | 0, _, _ => ⟨0, rfl, Int.le_refl 0, by omega, fun k hk => by omega⟩
  | n + 1, hn, h => by
    obtain ⟨S, h1, h2, h3, h4⟩ := sumL_toInt hm hm2 n (by omega) (fun i hi => h i (by omega))
    have hi := h n (by omega)
    have hb : m * n ≤ 10000000000 * 20 := by
      have : m * (n : Int) ≤ 10000000000 * (n : Int) := Int.mul_le_mul_of_nonneg_right hm2 (by omega)
      omega
    have e : (sumL a (n + 1)).toInt = (sumL a n).toInt + (a n).toInt := by
      show (sumL a n + a n).toInt = _
      exact add64 (by omega) (by omega)
    refine ⟨(sumL a n).toInt + (a n).toInt, e, by omega, ?_, fun k hk => ?_⟩
    · have : m * ((n : Int) + 1) = m * n + m := by rw [Int.mul_add, Int.mul_one]
      push_cast
      omega
    · by_cases q : k = n
      · subst q; exact e
      · exact h4 k (by omega)
/-- the sum over the clients of what each holds is the sum of all holds -/
def sumN (a : Nat → Int) : Nat → Int
  | 0 => 0
  | n + 1 => sumN a n + a n
theorem sumN_cong {a b : Nat → Int} : ∀ n, (∀ i, i < n → a i = b i) → sumN a n = sumN b n
  | 0, _ => rfl
  | n + 1, h => by rw [sumN, sumN, sumN_cong n (fun i hi => h i (by omega)), h n (by omega)]
theorem sumN_add {a b : Nat → Int} : ∀ n, sumN (fun i => a i + b i) n = sumN a n + sumN b n
  | 0 => rfl
  | n + 1 => by rw [sumN, sumN, sumN, sumN_add n]; omega
theorem sumN_one {c : Nat} {v : Int} : ∀ n, sumN (fun i => if i = c then v else 0) n = if c < n then v else 0
  | 0 => by rw [if_neg (by omega)]; rfl
  | n + 1 => by
    rw [sumN, sumN_one n]
    by_cases q : n = c
    · subst q; rw [if_neg (by omega), if_pos rfl, if_pos (by omega)]; omega
    · rw [if_neg q]
      by_cases w : c < n
      · rw [if_pos w, if_pos (by omega)]; omega
      · rw [if_neg w, if_neg (by omega)]; omega
theorem sumN_zero : ∀ n, sumN (fun _ => 0) n = 0
  | 0 => rfl
  | n + 1 => by rw [sumN, sumN_zero n]; rfl
theorem all_held {C : Nat} {Anu ce : Nat → Int32} (hinj : ∀ i j, i < C → j < C → Anu i = Anu j → i = j) : ∀ R, (∀ i, i < R → ∃ c, c < C ∧ ce (i * 4 + 1) = Anu c) → sumN (fun c => hsZ ce (Anu c) R) C = sumN (fun j => (ce (j * 4 + 2)).toInt) R
  | 0, _ => sumN_zero C
  | R + 1, h => by
    rw [show sumN (fun j => (ce (j * 4 + 2)).toInt) (R + 1) = sumN (fun j => (ce (j * 4 + 2)).toInt) R + (ce (R * 4 + 2)).toInt from rfl, ← all_held hinj R (fun i hi => h i (by omega))]
    obtain ⟨c, c1, c2⟩ := h R (by omega)
    have e : ∀ i, i < C → hsZ ce (Anu i) (R + 1) = hsZ ce (Anu i) R + (if i = c then (ce (R * 4 + 2)).toInt else 0) := fun i hi => by
      show (if decide (ce (R * 4 + 1) = Anu i) = true then hsZ ce (Anu i) R + (ce (R * 4 + 2)).toInt else hsZ ce (Anu i) R) = _
      by_cases q : i = c
      · subst q; rw [if_pos (decide_eq_true c2), if_pos rfl]
      · rw [if_neg (fun z => q (hinj i c hi c1 ((of_decide_eq_true z).symm.trans c2))), if_neg q]; omega
    rw [sumN_cong C e, sumN_add, sumN_one, if_pos c1]
theorem sumN_L {a : Nat → Int64} {m : Int} (hm : 0 ≤ m) (hm2 : m ≤ 10000000000) : ∀ (n : Nat), n ≤ 20 → (∀ i, i < n → 0 ≤ (a i).toInt ∧ (a i).toInt ≤ m) → (sumL a n).toInt = sumN (fun i => (a i).toInt) n
  | 0, _, _ => rfl
  | n + 1, hn, h => by
    obtain ⟨S, h1, h2, h3, h4⟩ := sumL_toInt hm hm2 (n + 1) hn h
    rw [h4 n (by omega), sumN_L hm hm2 n (by omega) (fun i hi => h i (by omega))]
    rfl
theorem q_sum {n : Nat} {Asz : Int32} {Anu : Nat → Int32} {Aba : Nat → Int32} {Amo : Nat → Int32} {Aco : Nat → Int64} {Hsz : Int32} {Hla : Int32} {Hce : Nat → Int32} {Bsz : Int32} {Bla : Int32} {Bce : Nat → Int32} {Tma : Int32} {Tlc : Int32} {Ttc : Nat → Int32} {day : Int32} {lim : Int32} {low : Int32} {hig : Int32} {thr : Int32} {off : Int64} {cre : Int64} {rcp : Int64} {pay : Int64} {st : Nat → Int32} {gr : Nat → Int64} (h : RS n Asz Anu Aba Amo Aco Hsz Hla Hce Bsz Bla Bce Tma Tlc Ttc day lim low hig thr off cre rcp pay st gr) (p1 : Int32) : ∃ r, fX7_sum Asz Aba Hsz Hce off cre rcp pay p1 = some r ∧ fX8_sum st gr p1 = some r := by
  obtain ⟨C, R, B, E, dn, hc, hI, hr, hrn, hh, hb, hbn, hbi, ht, hv, hE, hs⟩ := h
  obtain ⟨hz, h5, hC⟩ := hc.1
  have hR := hr.1.2.2.1
  unfold fX7_sum fX8_sum
  rcases rng_dec p1 5 (by decide) with ⟨a1, a2, a3, a4, a5⟩ | ⟨a1, a5⟩
  · rw [a5, bd1_s, if_neg n10]
    obtain ⟨k, ek, ek2, ek3⟩ := nneg_nI a1.1
    have k5 : k ≤ 5 := by have := a1.2; rw [show (5 : Int32).toInt = 5 from rfl] at this; omega
    obtain ⟨g1, g2, g3, g4⟩ := hs.2.2.1
    unfold fX8_sumOf
    rw [ek]
    rcases (by omega : k = 0 ∨ k = 1 ∨ k = 2 ∨ k = 3 ∨ k = 4 ∨ k = 5) with e | e | e | e | e | e <;> subst e
    · have x := sumBal_L hC Aba 2147483648 0 (by omega) (by omega)
      have m := sumM0_L hC h5 2147483648 0 (by omega) (by omega)
      rw [nI_0, show sumL (fun i => (Aba i).toInt64) 0 = 0 from rfl] at x
      rw [nI_0, show sumL (fun i => (st (13 + 3 * i)).toInt64) 0 = 0 from rfl] at m
      rw [if_pos (show nI 0 = 0 from rfl), if_pos (show nI 0 < 2 by decide), hz]
      unfold fX0_sumOfBalances
      rw [x, bd1_s, bd1_s, nI_0, m, bd1_s, bd1_s]
      refine ⟨_, rfl, congrArg some (sumL_cong C (fun i hi => ?_))⟩
      rw [(hc.2 i hi).2.1]
    · have m := sumM1_L hC h5 (f := fun c => hsI Hce (Anu c) R) (fun i hi => (free_both hc hr (fun i hi => (hh.1 i hi).2.2.2) hs.2.1.1 hi).2.2) 2147483648 0 (by omega) (by omega)
      rw [nI_0, show sumL (fun i => (hsI Hce (Anu i) R).toInt64) 0 = 0 from rfl] at m
      rw [if_neg (show ¬ nI 1 = 0 by decide), if_pos (show nI 1 = 1 from rfl), if_pos (show nI 1 < 2 by decide), hr.1.1, show fX4_sumOfAll (nI R) Hce 2 = _ from X4_sumOfAll (k := 2) hR (by omega) Hce, bd1_s, show nI 1 = 1 from rfl, m, bd1_s, bd1_s]
      refine ⟨_, rfl, congrArg some (Int64.toInt_inj.mp ?_)⟩
      rw [sumN_L (m := 1500000000) (by omega) (by omega) C (by omega) (fun i hi => by
        obtain ⟨t1, t2⟩ := hs_toInt hh hR (Anu i)
        have := hh.2 i hi
        have := hI.1 i hi
        rw [up64, t1]; omega), sumN_L (m := 1500000000) (by omega) (by omega) R (by omega) (fun i hi => by rw [up64]; have := hh.1 i hi; omega)]
      rw [sumN_cong C (b := fun c => hsZ Hce (Anu c) R) (fun i hi => by rw [up64]; exact (hs_toInt hh hR (Anu i)).1), all_held (fun i j h1 h2 e => Anu_inj hI h1 h2 e) R (fun i hi => (hh.1 i hi).1)]
      exact sumN_cong R (fun i hi => (up64 _).symm)
    · rw [if_neg (by decide), if_neg (by decide), if_pos (by decide), if_neg (by decide), show ckI (12 + nI 2 - 2) 16 _ = _ from ckI_ok (i := 12) (by omega) (by omega), bd1_s]
      exact ⟨off, rfl, congrArg some g1⟩
    · rw [if_neg (by decide), if_neg (by decide), if_neg (by decide), if_pos (by decide), if_neg (by decide), show ckI (12 + nI 3 - 2) 16 _ = _ from ckI_ok (i := 13) (by omega) (by omega), bd1_s]
      exact ⟨cre, rfl, congrArg some g2⟩
    · rw [if_neg (by decide), if_neg (by decide), if_neg (by decide), if_neg (by decide), if_pos (by decide), if_neg (by decide), show ckI (12 + nI 4 - 2) 16 _ = _ from ckI_ok (i := 14) (by omega) (by omega), bd1_s]
      exact ⟨rcp, rfl, congrArg some g3⟩
    · rw [if_neg (by decide), if_neg (by decide), if_neg (by decide), if_neg (by decide), if_neg (by decide), if_pos (by decide), if_neg (by decide), show ckI (12 + nI 5 - 2) 16 _ = _ from ckI_ok (i := 15) (by omega) (by omega), bd1_s]
      exact ⟨pay, rfl, congrArg some g4⟩
  · rw [a5, bd1_s, if_pos rfl]
    have np : ∀ k : Int32, 0 ≤ k.toInt → k.toInt ≤ 5 → ¬ p1 = k := fun k h0 h7 e => by
      subst e
      rcases a1 with c1 | ⟨c1, c2, c3⟩
      · rw [lt_i, toInt_0] at c1; omega
      · rw [lt_i, show (5 : Int32).toInt = 5 from rfl] at c2; omega
    rw [if_neg (np 0 (by decide) (by decide)), if_neg (np 1 (by decide) (by decide)), if_neg (np 2 (by decide) (by decide)), if_neg (np 3 (by decide) (by decide)), if_neg (np 4 (by decide) (by decide)), if_neg (np 5 (by decide) (by decide))]
    exact ⟨-2, rfl, rfl⟩
theorem chr_dec (p : Int32) : ((33 ≤ p.toInt ∧ p.toInt ≤ 126) ∧ ¬ p < 33 ∧ p ≤ 126 ∧ fX8_within p 33 126 = some 1) ∨ ((p < 33 ∨ ¬ p < 33 ∧ ¬ p ≤ 126) ∧ fX8_within p 33 126 = some 0) := by
  have e1 : (33 : Int32).toInt = 33 := rfl
  have e9 : (126 : Int32).toInt = 126 := rfl
  simp only [within_i, lt_i, le_i, e1, e9]
  by_cases c : 33 ≤ p.toInt ∧ p.toInt ≤ 126
  · exact Or.inl ⟨c, by omega, by omega, by rw [if_pos c]⟩
  · exact Or.inr ⟨by omega, by rw [if_neg c]⟩
