/-! the law's acts: open, close, rates -/
section CCL
theorem ins_L {C g : Nat} (hC : C < 12) (hg : g ≤ C) (p dy : Int32) : ∀ (n z : Nat) (nu ba mo : Nat → Int32) (co : Nat → Int64), g ≤ z → z ≤ C → z < n → (g = 0 ∨ nu (g - 1) ≤ p) → (∀ i, g ≤ i → i < z → ¬ nu i ≤ p) →
    ∃ nu' ba' mo' co', fX0_insert_L25 (nI (C + 1)) p dy n nu ba mo co (nI z) = some (nu', ba', mo', co', nI g) ∧ ∀ i, i ≠ g → (nu' i = nu (if g < i ∧ i ≤ z then i - 1 else i) ∧ ba' i = ba (if g < i ∧ i ≤ z then i - 1 else i) ∧ mo' i = mo (if g < i ∧ i ≤ z then i - 1 else i) ∧ co' i = co (if g < i ∧ i ≤ z then i - 1 else i)) := by
  intro n
  induction n with
  | zero => intro z nu ba mo co h1 h2 h3; omega
  | succ n ih =>
    intro z nu ba mo co h1 h2 h3 hlo hhi
    rw [fX0_insert_L25]
    by_cases e : z = g
    · subst e
      by_cases e0 : z = 0
      · subst e0
        rw [if_pos (show nI 0 ≤ 0 by decide)]
        exact ⟨nu, ba, mo, co, rfl, fun i hi => by rw [if_neg (by omega)]; exact ⟨rfl, rfl, rfl, rfl⟩⟩
      · have z0 : ¬ nI z ≤ 0 := by rw [le_i, nI_toInt (by omega), toInt_0]; omega
        have zm : nI z - 1 = nI (z - 1) := nI_sub (b := 1) (by omega)
        rw [if_neg z0, zm, X0_numberAt (by omega) (by omega), bd1_s, if_pos (hlo.resolve_left e0)]
        exact ⟨nu, ba, mo, co, rfl, fun i hi => by rw [if_neg (by omega)]; exact ⟨rfl, rfl, rfl, rfl⟩⟩
    · have z0 : ¬ nI z ≤ 0 := by rw [le_i, nI_toInt (by omega), toInt_0]; omega
      have zm : nI z - 1 = nI (z - 1) := nI_sub (b := 1) (by omega)
      have zm' : nI z + -1 = nI (z - 1) := by rw [← zm, Int32.sub_eq_add_neg]
      rw [if_neg z0, zm, X0_numberAt (by omega) (by omega), bd1_s, if_neg (hhi (z - 1) (by omega) (by omega)), X0_copyRow (by omega) (by omega) (by omega), bd4_s, zm']
      obtain ⟨nu', ba', mo', co', a1, a5⟩ := ih (z - 1) (upd nu z (nu (z - 1))) (upd ba z (ba (z - 1))) (upd mo z (mo (z - 1))) (vp_updL co z (co (z - 1))) (by omega) (by omega) (by omega) (by
        by_cases c : g = 0
        · exact Or.inl c
        · rw [upd_n (by omega)]; exact hlo) (fun i h1 h2 => by rw [upd_n (by omega)]; exact hhi i h1 (by omega))
      refine ⟨nu', ba', mo', co', a1, fun i hi => ?_⟩
      obtain ⟨b1, b2, b3, b4⟩ := a5 i hi
      rw [b1, b2, b3, b4]
      by_cases c1 : g < i ∧ i ≤ z - 1
      · rw [if_pos c1, if_pos ⟨c1.1, by omega⟩, upd_n (by omega), upd_n (by omega), upd_n (by omega), updL_n (by omega)]
        exact ⟨rfl, rfl, rfl, rfl⟩
      · rw [if_neg c1]
        by_cases c2 : i = z
        · subst c2
          rw [if_pos ⟨by omega, by omega⟩, upd_s, upd_s, upd_s, updL_s]
          exact ⟨rfl, rfl, rfl, rfl⟩
        · rw [if_neg (by omega), upd_n c2, upd_n c2, upd_n c2, updL_n c2]
          exact ⟨rfl, rfl, rfl, rfl⟩
theorem del_L {C : Nat} (hC : C ≤ 12) : ∀ (n z : Nat) (nu ba mo : Nat → Int32) (co : Nat → Int64), z < C → C - z < n →
    ∃ nu' ba' mo' co', fX0_remove_L11 (nI C) n nu ba mo co (nI z) = some (nu', ba', mo', co') ∧ ∀ i, i + 1 < C → (nu' i = nu (if z ≤ i then i + 1 else i) ∧ ba' i = ba (if z ≤ i then i + 1 else i) ∧ mo' i = mo (if z ≤ i then i + 1 else i) ∧ co' i = co (if z ≤ i then i + 1 else i)) := by
  intro n
  induction n with
  | zero => intro z nu ba mo co h1 h2; omega
  | succ n ih =>
    intro z nu ba mo co h1 h2
    rw [fX0_remove_L11, nI_1]
    by_cases e : z + 1 = C
    · rw [if_pos (nI_le (by omega) (by omega))]
      exact ⟨nu, ba, mo, co, rfl, fun i hi => by rw [if_neg (by omega)]; exact ⟨rfl, rfl, rfl, rfl⟩⟩
    · rw [if_neg (nI_ge (by omega) (by omega)), X0_copyRow hC (by omega) (by omega), bd4_s]
      obtain ⟨nu', ba', mo', co', a1, a5⟩ := ih (z + 1) (upd nu z (nu (z + 1))) (upd ba z (ba (z + 1))) (upd mo z (mo (z + 1))) (vp_updL co z (co (z + 1))) (by omega) (by omega)
      refine ⟨nu', ba', mo', co', a1, fun i hi => ?_⟩
      obtain ⟨b1, b2, b3, b4⟩ := a5 i hi
      rw [b1, b2, b3, b4]
      by_cases c1 : z + 1 ≤ i
      · rw [if_pos c1, if_pos (by omega), upd_n (by omega), upd_n (by omega), upd_n (by omega), updL_n (by omega)]
        exact ⟨rfl, rfl, rfl, rfl⟩
      · rw [if_neg c1]
        by_cases c2 : i = z
        · subst c2
          rw [if_pos (by omega), upd_s, upd_s, upd_s, updL_s]
          exact ⟨rfl, rfl, rfl, rfl⟩
        · rw [if_neg (by omega), upd_n c2, upd_n c2, upd_n c2, updL_n c2]
          exact ⟨rfl, rfl, rfl, rfl⟩
variable {n E dn t1 t2 : Nat} {Asz : Int32} {Anu : Nat → Int32} {Aba : Nat → Int32} {Amo : Nat → Int32} {Aco : Nat → Int64} {Hsz : Int32} {Hla : Int32} {Hce : Nat → Int32} {Bsz : Int32} {Bla : Int32} {Bce : Nat → Int32} {Tma : Int32} {Tlc : Int32} {Ttc : Nat → Int32} {day : Int32} {lim : Int32} {low : Int32} {hig : Int32} {thr : Int32} {off : Int64} {cre : Int64} {rcp : Int64} {pay : Int64} {ee : Nat → Int32} {mm : Nat → Int64} {qq : Nat → Int32} {hh : Nat → Int32} {bb : Nat → Int32} {sv : Int32} {nx : Int32} {SL : Nat → XS} {rec : (Nat → Int32) → (Nat → Int64) → (Nat → Int32) → (Nat → Int32) → (Nat → Int32) → Int32 → (Nat → Int32) → (Nat → Int32) → Int32 → (Nat → Int32) → (Nat → Int32) → (Nat → Int32) → (Nat → Int64) → Int32 → Int32 → (Nat → Int32) → Int32 → Int32 → (Nat → Int32) → Int32 → Int32 → (Nat → Int32) → Int32 → Int32 → Int32 → Int32 → Int32 → Int64 → Int64 → Int64 → Int64 → Int32 → Int32 → (Nat → XS) → Int32 → Int32 → Option (Int32 ⊕ Unit)}
theorem open_x (h : PRc E dn t1 t2 Asz Anu Aba Amo Aco Hsz Hla Hce Bsz Bla Bce Tma Tlc Ttc day lim low hig thr off cre rcp pay ee mm qq hh bb) (hdn : dn ≤ 2800) {c : Nat} (hc : 1 ≤ c ∧ c < 6) (hp : pq qq c = false) :
    ∃ Anu' Aba' Amo' Aco', fX5_openAccount Asz Anu Aba Amo Aco day (nI c) = some (nI (rk (pq qq) 7 + 1), nI (rk (pq qq) 7 + 1), Anu', Aba', Amo', Aco') ∧ PRc E dn t1 t2 (nI (rk (pq qq) 7 + 1)) Anu' Aba' Amo' Aco' Hsz Hla Hce Bsz Bla Bce Tma Tlc Ttc day lim low hig thr off cre rcp pay ee (vp_updL (vp_updL mm c 0) (10 + c) 0) (upd qq (10 + c) (nI dn)) hh bb := by
  obtain ⟨k1, k2, k3, k4, k5, k6, k7, k8, k9, k10⟩ := h
  obtain ⟨⟨s1, s2, s3, s4⟩, s5, ⟨s6, s7, s8, s9⟩, s10, s11⟩ := k10
  have hR7 := rk_bd (pq qq) 7
  have hQ : ∀ k, k < 7 → pq (upd qq (10 + c) (nI dn)) k = (pq qq k || decide (k = c)) := fun k hk => by
    unfold pq
    by_cases e : k = c
    · subst e; rw [upd_s, nI_toInt (by omega)]; simp
    · rw [upd_n (by omega)]; simp [e]
  have hr := rk_in hp (show c < 7 by omega) hQ
  have h7 := (hr 7 (Nat.le_refl _)).2 (by omega)
  have hgc := (hr c (by omega)).1 (Nat.le_refl _)
  have hgle : rk (pq qq) c ≤ rk (pq qq) 7 := rk_le (by omega)
  have hpc : pq (upd qq (10 + c) (nI dn)) c = true := by rw [hQ c (by omega)]; simp
  have hmono : ∀ k, k < 7 → pq qq k = true → pq (upd qq (10 + c) (nI dn)) k = true := fun k hk hpk => by rw [hQ k hk, hpk]; rfl
  have hC6 : rk (pq qq) 7 ≤ 6 := by
    have e1 : rk (pq qq) 7 = rk (pq qq) 6 := rk_f k1.2.2.1
    have := rk_bd (pq qq) 6
    omega
  obtain ⟨nu', ba', mo', co', i1, i2⟩ := ins_L (C := rk (pq qq) 7) (g := rk (pq qq) c) (by omega) hgle (nI c) day 2147483648 (rk (pq qq) 7) Anu Aba Amo Aco hgle (Nat.le_refl _) (by omega) (by
    by_cases z : rk (pq qq) c = 0
    · exact Or.inl z
    · obtain ⟨j, j1, j2, j3⟩ := rk_surj (P := pq qq) (n := c) (j := rk (pq qq) c - 1) (by omega)
      have := (k1.2.2.2 j (by omega) j2).1
      rw [j3] at this
      rw [this]
      exact Or.inr (nI_le (by omega) (by omega))) (fun i h1 h2 => by
    obtain ⟨j, j1, j2, j3⟩ := rk_surj (P := pq qq) (n := 7) (j := i) h2
    have e := (k1.2.2.2 j j1 j2).1
    rw [j3] at e
    have : c < j := by
      rcases Nat.lt_trichotomy j c with w | w | w
      · have := rk_lt j2 w; omega
      · subst w; rw [hp] at j2; cases j2
      · exact w
    rw [e]
    exact nI_ge this (by omega))
  have b0 : ∀ j, j ≠ c → j < 10 → vp_updL (vp_updL mm c 0) (10 + c) 0 j = mm j := fun j h1 h2 => by rw [updL_n (by omega), updL_n (by omega)]
  have bc : vp_updL (vp_updL mm c 0) (10 + c) 0 c = 0 := by rw [updL_n (by omega), updL_s]
  have b1 : ∀ j, j ≠ c → j < 7 → vp_updL (vp_updL mm c 0) (10 + c) 0 (10 + j) = mm (10 + j) := fun j h1 h2 => by rw [updL_n (by omega), updL_n (by omega)]
  have b2 : ∀ j, 20 ≤ j → vp_updL (vp_updL mm c 0) (10 + c) 0 j = mm j := fun j h1 => by rw [updL_n (by omega), updL_n (by omega)]
  have z0 : (0 : Int64).toInt = 0 := rfl
  have hzc : hz hh c = 0 := sumZ_none 20 (fun k hk => decide_eq_false fun e => by
    have hpw : pw hh k = true := decide_eq_true (by rw [e, nI_toInt (by omega)]; omega)
    obtain ⟨c', c1, c2, c3⟩ := ((k5 k hk).2.2 hpw).2
    rw [e] at c3
    have := nI_inj (by omega) (by omega) c3
    subst this
    rw [hp] at c2
    cases c2)
  refine ⟨upd nu' (rk (pq qq) c) (nI c), upd ba' (rk (pq qq) c) 0, upd mo' (rk (pq qq) c) day, vp_updL co' (rk (pq qq) c) 0, ?_, ⟨by rw [h7], ?_, ?_, fun k hk hpk => ?_⟩, fun k hk hpk => ?_, fun k hk hpk => ?_, k4, fun k hk => ?_, ⟨k6.1, fun k hk hpk => ?_⟩, k7, fun k hk => ?_, ?_, ⟨⟨s1, by rw [upd_n (by omega)]; exact s2, by rw [upd_n (by omega)]; exact s3, by rw [upd_n (by omega)]; exact s4⟩, ⟨by rw [upd_n (by omega)]; exact s5.1, by rw [upd_n (by omega)]; exact s5.2.1, by rw [upd_n (by omega)]; exact s5.2.2.1, by rw [upd_n (by omega)]; exact s5.2.2.2⟩, ⟨by rw [b2 _ (by omega)]; exact s6, by rw [b2 _ (by omega)]; exact s7, by rw [b2 _ (by omega)]; exact s8, by rw [b2 _ (by omega)]; exact s9⟩, s10, ?_⟩⟩
  · unfold fX5_openAccount
    have i1 : fX0_insert_L25 (nI (rk (pq qq) 7 + 1)) (nI c) day 2147483648 Anu Aba Amo Aco (nI (rk (pq qq) 7)) = _ := i1
    have kg : ∀ {β : Type} (k : Option β), ckI (nI (rk (pq qq) c)) 12 k = k := fun k => ckI_ok (by omega) (by omega)
    have cg : (nI (rk (pq qq) c)).toNatClampNeg = rk (pq qq) c := nI_clamp (by omega)
    rw [if_neg (show ¬ nI c < 1 by rw [lt_i, nI_toInt (by omega), toInt_1]; omega), if_pos (show nI c ≤ (99 : Int32) from nI_le (b := 99) (by omega) (by omega)), cl_findn k1 (by omega) hp, bd1_s, if_pos (by decide), if_pos (show Asz < 12 by rw [k1.1]; exact (nI_ltI (b := 12) (by omega) (by omega)).mpr (by omega))]
    unfold fX0_insert
    rw [if_pos (show Asz < 12 by rw [k1.1]; exact (nI_ltI (b := 12) (by omega) (by omega)).mpr (by omega)), lts, k1.1, nI_1, i1, bd5_s, X0_place (show rk (pq qq) c < rk (pq qq) 7 + 1 by omega) (by omega), bd1_s, if_neg (by decide)]
    simp only [kg, cg, lts, bd5_s]
  · rw [hQ 0 (by omega), k1.2.1]; simp; omega
  · rw [hQ 6 (by omega), k1.2.2.1]; simp; omega
  · by_cases e : k = c
    · subst e
      rw [hgc, upd_s, upd_s, upd_s, bc, upd_s]
      exact ⟨rfl, rfl, s1⟩
    · have hpo : pq qq k = true := by
        have := hQ k hk
        rw [hpk] at this
        simpa [e] using this.symm
      obtain ⟨w1, w2, w3⟩ := k1.2.2.2 k hk hpo
      have hlt := rk_lt hpo hk
      rw [b0 k e (by omega), upd_n (f := qq) (by omega)]
      rcases Nat.lt_or_gt_of_ne e with q | q
      · have e2 := (hr k (by omega)).1 (by omega)
        have := rk_lt hpo q
        obtain ⟨v1, v2, v3, v4⟩ := i2 (rk (pq qq) k) (by omega)
        rw [if_neg (by omega)] at v1 v2 v3
        rw [e2, upd_n (by omega), upd_n (by omega), upd_n (by omega), v1, v2, v3]
        exact ⟨w1, w2, w3⟩
      · have e2 := (hr k (by omega)).2 q
        have := rk_le (P := pq qq) (show c ≤ k by omega)
        obtain ⟨v1, v2, v3, v4⟩ := i2 (rk (pq qq) k + 1) (by omega)
        rw [if_pos (by omega), Nat.add_sub_cancel] at v1 v2 v3
        rw [e2, upd_n (by omega), upd_n (by omega), upd_n (by omega), v1, v2, v3]
        exact ⟨w1, w2, w3⟩
  · by_cases e : k = c
    · subst e
      rw [hgc, updL_s, updL_s]
    · have hpo : pq qq k = true := by
        have := hQ k hk
        rw [hpk] at this
        simpa [e] using this.symm
      have w1 := k2 k hk hpo
      have hlt := rk_lt hpo hk
      rw [b1 k e hk]
      rcases Nat.lt_or_gt_of_ne e with q | q
      · have e2 := (hr k (by omega)).1 (by omega)
        have := rk_lt hpo q
        obtain ⟨v1, v2, v3, v4⟩ := i2 (rk (pq qq) k) (by omega)
        rw [if_neg (by omega)] at v4
        rw [e2, updL_n (by omega), v4]
        exact w1
      · have e2 := (hr k (by omega)).2 q
        have := rk_le (P := pq qq) (show c ≤ k by omega)
        obtain ⟨v1, v2, v3, v4⟩ := i2 (rk (pq qq) k + 1) (by omega)
        rw [if_pos (by omega), Nat.add_sub_cancel] at v4
        rw [e2, updL_n (by omega), v4]
        exact w1
  · by_cases e : k = c
    · subst e
      rw [bc, updL_s, z0]
      omega
    · have hpo : pq qq k = true := by
        have := hQ k hk
        rw [hpk] at this
        simpa [e] using this.symm
      rw [b0 k e (by omega), b1 k e hk]
      exact k3 k hk hpo
  · obtain ⟨o1, o2, o3⟩ := k5 k hk
    refine ⟨o1, o2, fun q => ?_⟩
    obtain ⟨o4, c', c1, c2, c3⟩ := o3 q
    exact ⟨o4, c', c1, hmono c' c1 c2, c3⟩
  · by_cases e : k = c
    · subst e
      rw [hzc, bc, z0]
      exact Int.le_refl _
    · have hpo : pq qq k = true := by
        have := hQ k hk
        rw [hpk] at this
        simpa [e] using this.symm
      rw [b0 k e (by omega)]
      exact k6.2 k hk hpo
  · obtain ⟨o1, o2, o3⟩ := k8 k hk
    refine ⟨o1, o2, fun q => ?_⟩
    obtain ⟨o4, c', c1, c2, c3⟩ := o3 q
    exact ⟨o4, c', c1, hmono c' c1 c2, c3⟩
  · obtain ⟨w1, w2, w3, w4⟩ := k9
    exact ⟨w1, by rw [upd_n (by omega)]; exact w2, by rw [b2 _ (by omega)]; exact w3, w4⟩
  · rw [b2 _ (by omega), b2 _ (by omega), b2 _ (by omega), b2 _ (by omega), sumC_new (t := pq qq) (u := pq (upd qq (10 + c) (nI dn))) (a := mm) (b := vp_updL (vp_updL mm c 0) (10 + c) 0) (c := c) (N := 7) hp hpc bc (fun k hk hne => ⟨by rw [hQ k hk]; simp [hne], b0 k hne (by omega)⟩) 7 (Nat.le_refl _)]
    exact s11
end CCL
