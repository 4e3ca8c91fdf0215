/-! the law's asks: sums, and all together -/
section SU
theorem sum_swap {P Q : Nat → Bool} {t : Nat → Nat → Bool} {v : Nat → Int64} (M : Nat) : ∀ N, (∀ k, k < N → Q k = true → ∃ c, c < M ∧ P c = true ∧ t c k = true ∧ ∀ d, d ≠ c → t d k = false) → (∀ k, k < N → Q k = false → ∀ c, c < M → P c = true → t c k = false) → sumC P (fun c => sumC (t c) v N) M = sumC Q v N
  | 0, _, _ => by
    have : ∀ m, sumC P (fun c => sumC (t c) v 0) m = 0 := fun m => by
      induction m with
      | zero => rfl
      | succ m ih =>
        rw [sumC_s, ih]
        split
        · rfl
        · rfl
    exact this M
  | N + 1, h, g => by
    have ih := sum_swap (v := v) M N (fun k hk => h k (by omega)) (fun k hk => g k (by omega))
    rw [sumC_s, ← ih]
    cases q : Q N with
    | true =>
      obtain ⟨c, c1, c2, c3, c4⟩ := h N (Nat.lt_succ_self _) q
      rw [if_pos rfl]
      exact sumC_up (a := fun c => sumC (t c) v N) (b := fun c => sumC (t c) v (N + 1)) c2 (by show sumC (t c) v (N + 1) = sumC (t c) v N + v N; rw [sumC_s, if_pos c3]) (fun d hd => by show sumC (t d) v (N + 1) = sumC (t d) v N; rw [sumC_s, if_neg (by rw [c4 d hd]; decide)]) M c1
    | false =>
      rw [if_neg (by decide)]
      exact sumC_cong M (fun d hd => ⟨rfl, fun hp => by show sumC (t d) v (N + 1) = sumC (t d) v N; rw [sumC_s, if_neg (by rw [g N (Nat.lt_succ_self _) q d hd hp]; decide)]⟩)
theorem sumI_64 {t : Nat → Bool} {a : Nat → Int32} : ∀ (n : Nat), n ≤ 20 → (∀ i, i < n → 0 ≤ (a i).toInt ∧ (a i).toInt ≤ 100000000) → (sumI t a n).toInt64 = sumC t (fun k => (a k).toInt64) n
  | 0, _, _ => rfl
  | n + 1, hn, h => by
    have ih := sumI_64 (t := t) n (by omega) (fun i hi => h i (by omega))
    obtain ⟨h1, h2, h3⟩ := sum_toInt20 (t := t) n (by omega) (fun i hi => h i (by omega))
    have hi := h n (Nat.lt_succ_self _)
    rw [sumI_s, sumC_s]
    cases t n with
    | false => rw [if_neg (by decide), if_neg (by decide)]; exact ih
    | true =>
      rw [if_pos rfl, if_pos rfl, ← ih]
      refine Int64.toInt_inj.mp ?_
      have b : (100000000 : Int) * (n : Int) ≤ 100000000 * 20 := by omega
      rw [up64, add_toInt (by omega) (by omega), add64 (by rw [up64, up64]; omega) (by rw [up64, up64]; omega), up64, up64]
variable {E dn t1 t2 : Nat} {Asz : Int32} {Anu : Nat → Int32} {Aba : Nat → Int32} {Amo : Nat → Int32} {Aco : Nat → Int64} {Hsz : Int32} {Hla : Int32} {Hce : Nat → Int32} {Bsz : Int32} {Bla : Int32} {Bce : Nat → Int32} {Tma : Int32} {Tlc : Int32} {Ttc : Nat → Int32} {day : Int32} {lim : Int32} {low : Int32} {hig : Int32} {thr : Int32} {off : Int64} {cre : Int64} {rcp : Int64} {pay : Int64} {ee : Nat → Int32} {mm : Nat → Int64} {qq : Nat → Int32} {hh : Nat → Int32} {bb : Nat → Int32}
theorem held_all (h : PRc E dn t1 t2 Asz Anu Aba Amo Aco Hsz Hla Hce Bsz Bla Bce Tma Tlc Ttc day lim low hig thr off cre rcp pay ee mm qq hh bb) : fX4_sumOfAll Hsz Hce 2 = some (sumC (pq qq) (hL hh) 7) := by
  obtain ⟨k1, k2, k3, k4, k5, k6, k7, k8, k9, k10⟩ := h
  have g := X4_sumOfAll (R := rk (pw hh) 20) (k := 2) k4.2.1 (by omega) Hce
  have g : fX4_sumOfAll (nI (rk (pw hh) 20)) Hce 2 = _ := g
  rw [k4.1, g]
  refine congrArg some ?_
  rw [sumL_rk (P := pw hh) (a := fun k => (hh (3 * k + 1)).toInt64) 20 (fun k hk hp => by rw [(k4.2.2.2.2 k hk hp).2.2.2.1])]
  have e : sumC (pq qq) (hL hh) 7 = sumC (pq qq) (fun c => sumC (fun k => decide ((hh (3 * k)).toInt = (c : Int))) (fun k => (hh (3 * k + 1)).toInt64) 20) 7 := sumC_cong 7 (fun c hc => ⟨rfl, fun hp => by
    show (hI hh c).toInt64 = _
    unfold hI
    rw [sumI_64 20 (Nat.le_refl _) (fun i hi => (k5 i hi).2.1)]
    refine sumC_cong 20 (fun k hk => ⟨?_, fun _ => rfl⟩)
    refine decide_eq_decide.mpr ⟨fun w => by rw [w, nI_toInt (by omega)], fun w => Int32.toInt_inj.mp (by rw [w, nI_toInt (by omega)])⟩⟩)
  rw [e]
  refine (sum_swap 7 20 (fun k hk hp => ?_) (fun k hk hp c hc hpc => ?_)).symm
  · obtain ⟨-, c, c1, c2, c3⟩ := (k5 k hk).2.2 hp
    refine ⟨c, c1, c2, decide_eq_true (by rw [c3, nI_toInt (by omega)]), fun d hd => decide_eq_false (by rw [c3, nI_toInt (by omega)]; omega)⟩
  · have w := pw_f hp
    have := pq_ne k1 hc hpc
    exact decide_eq_false (by omega)
theorem bal_all (h : PRc E dn t1 t2 Asz Anu Aba Amo Aco Hsz Hla Hce Bsz Bla Bce Tma Tlc Ttc day lim low hig thr off cre rcp pay ee mm qq hh bb) : fX0_sumOfBalances Asz Aba = some (sumC (pq qq) mm 7) := by
  have g := sumBal_L (rk7 (pq qq)) Aba 2147483648 0 (by omega) (by have := rk_bd (pq qq) 7; omega)
  have g : fX0_sumOfBalances_L4 (nI (rk (pq qq) 7)) Aba 2147483648 0 0 = _ := g
  unfold fX0_sumOfBalances
  rw [h.1.1, g, bd1_s]
  exact congrArg some (sumL_rk (P := pq qq) 7 (fun k hk hp => (h.1.2.2.2 k hk hp).2.1))
theorem same_ok (h : PRc E dn t1 t2 Asz Anu Aba Amo Aco Hsz Hla Hce Bsz Bla Bce Tma Tlc Ttc day lim low hig thr off cre rcp pay ee mm qq hh bb) (hE : E ≤ 40000) (hdn : dn ≤ 2800) (Ksz : Int32) (Kcl : Nat → Int32) (Kke : Nat → Int32) (x : Int32) : ∃ Ksz' Kcl' Kke', fL_same ee mm qq hh bb Ksz Kcl Kke Asz Anu Aba Amo Aco Hsz Hce Bsz Bce Tma Ttc day off cre rcp pay x = some (1, Ksz', Kcl', Kke') := by
  have hR := rk_bd (pq qq) 7
  obtain ⟨K1, K2, K3, a1⟩ := s_each h hdn 2147483648 1 Ksz Kcl Kke (by omega) (by omega) (by omega)
  have p0 : rk (pq qq) 1 = 0 := rk_f h.1.2.1
  have s0 : ∀ m, sumC (pq qq) m 1 = 0 := fun m => by
    rw [sumC_s, h.1.2.1, if_neg (by decide)]; rfl
  rw [p0, s0, s0] at a1
  have a1 : fL_same_L12 mm qq hh bb Asz Anu Aba Amo Aco Hsz Hce Bsz Bce 2147483648 Ksz Kcl Kke 0 0 0 1 = _ := a1
  obtain ⟨K4, K5, K6, a2⟩ := s_orders h hdn (sumC (pq qq) mm 7) (sumC (pq qq) (hL hh) 7) 2147483648 1 K1 K2 K3 (by omega) (by omega) (by omega)
  have a2 : fL_same_L338 mm qq hh Asz Anu Aba Amo Hsz Hce (nI (rk (pq qq) 7)) (sumC (pq qq) mm 7) (sumC (pq qq) (hL hh) 7) 2147483648 K1 K2 K3 1 = _ := a2
  have a3 := s_rows h K4 K5 K6 (nI (rk (pq qq) 7)) (sumC (pq qq) mm 7) (sumC (pq qq) (hL hh) 7) 2147483648 0 (by omega) (by omega)
  have a3 : fL_same_L532 hh bb K4 K5 K6 Hsz Hce Bsz Bce (nI (rk (pq qq) 7)) (sumC (pq qq) mm 7) (sumC (pq qq) (hL hh) 7) 2147483648 0 = _ := a3
  have a4 := s_entries h (by omega) K4 K5 K6 (nI (rk (pq qq) 7)) (sumC (pq qq) mm 7) (sumC (pq qq) (hL hh) 7) 2147483648 E (Nat.le_refl _) (by omega)
  have q5 : ∀ {β : Type} (k : Option β), ckI 5 18 k = k := fun k => ckI_ok (i := 5) (by omega) (by omega)
  have q0 : ∀ {β : Type} (k : Option β), ckI 0 18 k = k := fun k => ckI_ok (i := 0) (by omega) (by omega)
  have q20 : ∀ {β : Type} (k : Option β), ckI 20 25 k = k := fun k => ckI_ok (i := 20) (by omega) (by omega)
  have q21 : ∀ {β : Type} (k : Option β), ckI 21 25 k = k := fun k => ckI_ok (i := 21) (by omega) (by omega)
  have q22 : ∀ {β : Type} (k : Option β), ckI 22 25 k = k := fun k => ckI_ok (i := 22) (by omega) (by omega)
  have q23 : ∀ {β : Type} (k : Option β), ckI 23 25 k = k := fun k => ckI_ok (i := 23) (by omega) (by omega)
  have z0 : (0 : Int32).toNatClampNeg = 0 := rfl
  have z5 : (5 : Int32).toNatClampNeg = 5 := rfl
  have z20 : (20 : Int32).toNatClampNeg = 20 := rfl
  have z21 : (21 : Int32).toNatClampNeg = 21 := rfl
  have z22 : (22 : Int32).toNatClampNeg = 22 := rfl
  have z23 : (23 : Int32).toNatClampNeg = 23 := rfl
  have b0 := bal_all h
  have b1 := held_all h
  obtain ⟨k1, k2, k3, k4, k5, k6, k7, k8, k9, k10⟩ := id h
  obtain ⟨⟨s1, s2, s3, s4⟩, s5, ⟨s6, s7, s8, s9⟩, s10, s11⟩ := k10
  have e5 := k9.2.1
  have ma := k9.1
  have S0 : fX7_sum Asz Aba Hsz Hce off cre rcp pay 0 = some (sumC (pq qq) mm 7) := by unfold fX7_sum; rw [if_pos rfl, b0, bd1_s]
  have S1 : fX7_sum Asz Aba Hsz Hce off cre rcp pay 1 = some (sumC (pq qq) (hL hh) 7) := by unfold fX7_sum; rw [if_neg (by decide), if_pos rfl, b1, bd1_s]
  have S2 : fX7_sum Asz Aba Hsz Hce off cre rcp pay 2 = some off := by unfold fX7_sum; rw [if_neg (by decide), if_neg (by decide), if_pos rfl]
  have S3 : fX7_sum Asz Aba Hsz Hce off cre rcp pay 3 = some cre := by unfold fX7_sum; rw [if_neg (by decide), if_neg (by decide), if_neg (by decide), if_pos rfl]
  have S4 : fX7_sum Asz Aba Hsz Hce off cre rcp pay 4 = some rcp := by unfold fX7_sum; rw [if_neg (by decide), if_neg (by decide), if_neg (by decide), if_neg (by decide), if_pos rfl]
  have S5 : fX7_sum Asz Aba Hsz Hce off cre rcp pay 5 = some pay := by unfold fX7_sum; rw [if_neg (by decide), if_neg (by decide), if_neg (by decide), if_neg (by decide), if_neg (by decide), if_pos rfl]
  have R1 : fX7_ranked K4 K5 K6 Asz Anu Aba Amo Hsz Hce 1 (nI (rk (pq qq) 7)) = some (-1, K4, K5, K6) := by
    unfold fX7_ranked
    rw [if_neg (by decide), if_pos (by decide), if_neg (nI_nl (by omega)), k1.1, if_neg Int32.lt_irrefl]
  have T1 : fX7_entry Tma Ttc (nI E + 1) 0 = some (-1) := by
    unfold fX7_entry
    rw [ma, nI_1, keeps_i (by omega), if_neg (by rw [nI_toInt (by omega)]; omega), bd1_s, if_pos rfl]
  refine ⟨K4, K5, K6, ?_⟩
  unfold fL_same
  rw [a1, bs6_i, a2, bs3_i, a3, bs0_i, q5, z5, lts, e5, a4, bs0_i]
  unfold fX7_day fX7_clients fX7_entries
  rw [bd1_s, q0, z0, s1, s2, if_pos rfl, bd1_s, k1.1, if_pos rfl, bd1_s, q5, ma, if_pos rfl]
  rw [← k1.1, S0, bd1_s, if_pos rfl, S1, bd1_s, if_pos rfl, S2, bd1_s, q20, z20, s6, if_pos rfl, S3, bd1_s, q21, z21, s7, if_pos rfl, S4, bd1_s, q22, z22, s8, if_pos rfl, S5, bd1_s, q23, z23, s9, if_pos rfl]
  rw [s6, s7, s8, s9] at s11
  rw [k1.1] at R1 ⊢
  rw [R1, bd4_s, if_pos rfl, q20, q23, q21, q22, s11, if_pos rfl, q5]
  rw [ma] at T1
  rw [T1, bd1_s, if_pos rfl]
end SU
