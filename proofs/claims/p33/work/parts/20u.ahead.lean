/-! forecasts: the law's loop, and both answers -/
theorem i64_m1 (a b r : Int64) : a - b + r = a + r - b := by grind
section AH
variable {lim low hig thr : Int32} {dn : Nat} {b : Int32} {t : Int64}
theorem he_b {hh qq : Nat → Int32} (hi : RIB hh qq) (c : Nat) (d : Int32) : 0 ≤ (heI hh c d).toInt ∧ (heI hh c d).toInt ≤ 2000000000 := by
  have := sum_toInt20 (t := fun k => decide (hh (3 * k) = nI c) && !decide (hh (3 * k + 2) < d)) (a := fun k => hh (3 * k + 1)) 20 (by omega) (fun i hi' => (hi i hi').2.1)
  unfold heI
  rw [this.1]
  exact ⟨this.2.1, by have := this.2.2; omega⟩
theorem lt_sub {x h am : Int32} (hx : 0 ≤ x.toInt ∧ x.toInt ≤ 1000000000) (hh : 0 ≤ h.toInt ∧ h.toInt ≤ 2000000000) : x.toInt64 - h.toInt64 < am.toInt64 ↔ x - h < am := by
  rw [lt64, lt_i, sub64 (by rw [up64, up64]; omega) (by rw [up64, up64]; omega), up64, up64, up64, sub_toInt (by omega) (by omega)]
theorem l_ahead_L (hg : RG lim low hig thr) (hdn : dn ≤ 3000) (hb : 0 ≤ b.toInt ∧ b.toInt ≤ 1000000000) (ht : 0 ≤ t.toInt ∧ t.toInt ≤ 2000000000000 * (dn : Int)) {qq hh : Nat → Int32} {mm : Nat → Int64} (hq : qq 1 = lim ∧ qq 2 = low ∧ qq 3 = hig ∧ qq 4 = thr) (q0 : qq 0 = nI dn) (hi : RIB hh qq) {c : Nat} (hc : 1 ≤ c) (hc2 : c < 7) (am u7 u8 u10 : Int32) (u19 u21 : Int64) {p : Nat} (hp : p ≤ 400) : ∀ (n k : Nat) (mk : Nat → Int64), k ≤ 401 → 401 - k < n → mk c = (acc lim low hig thr dn b t (k - 1)).1.toInt64 → mk (10 + c) = (acc lim low hig thr dn b t (k - 1)).2 → (∀ j, j ≠ c → j ≠ 10 + c → mk j = mm j) →
    ∃ m', fL_law_L1423 qq hh u7 u8 u10 (nI c) am (nI p) u19 u21 n mk ((acc lim low hig thr dn b t (min (k - 1) p)).1.toInt64 - b.toInt64) (wN hh c am lim low hig thr dn b t k) (nI k) = some (m', (acc lim low hig thr dn b t p).1.toInt64 - b.toInt64, wN hh c am lim low hig thr dn b t 401) ∧ ∀ j, j ≠ c → j ≠ 10 + c → m' j = mm j := by
  intro n
  induction n with
  | zero => intro k mk h1 h2; omega
  | succ n ih =>
    intro k mk h1 h2 m1 m2 m3
    rw [fL_law_L1423]
    by_cases e : k = 401
    · subst e
      rw [if_pos (show (400 : Int32) < nI 401 by decide), show min (401 - 1) p = p by omega]
      exact ⟨mk, rfl, m3⟩
    · rw [if_neg (show ¬ (400 : Int32) < nI k from fun q => by have := (nI_ltI (a := 400) (by omega) (by omega)).mp q; omega)]
      have k0 : ∀ {β : Type} (k : Option β), ckI 0 18 k = k := fun k => ckI_ok (i := 0) (by omega) (by omega)
      have z0 : (0 : Int32).toNatClampNeg = 0 := rfl
      have kk : ∀ {β : Type} (k : Option β), ckI (nI c) 25 k = k := fun k => ckI_ok (by omega) (by omega)
      have cc : (nI c).toNatClampNeg = c := nI_clamp (by omega)
      obtain ⟨a1, a2⟩ := acc_b hg hdn hb ht k (by omega)
      have hstep : wN hh c am lim low hig thr dn b t (k + 1) = if 0 ≤ wN hh c am lim low hig thr dn b t k then wN hh c am lim low hig thr dn b t k else if pD hh c am lim low hig thr dn b t k = true then nI (dn + k) else -6 := rfl
      -- behind the interest
      have main : ∀ (mk' : Nat → Int64) (x : Int64), mk' c = (acc lim low hig thr dn b t k).1.toInt64 → mk' (10 + c) = (acc lim low hig thr dn b t k).2 → (∀ j, j ≠ c → j ≠ 10 + c → mk' j = mm j) → x = (acc lim low hig thr dn b t (min k p)).1.toInt64 - b.toInt64 → ∃ m', (if 0 ≤ wN hh c am lim low hig thr dn b t k then fL_law_L1423 qq hh u7 u8 u10 (nI c) am (nI p) u19 u21 n mk' x (wN hh c am lim low hig thr dn b t k) (nI k + 1) else ckI (nI c) 25 <| ckI 0 18 <| bd1 (fL_held hh (nI c) ((qq (0 : Int32).toNatClampNeg) + nI k)) fun r_270 => if ((mk' (nI c).toNatClampNeg) - r_270.toInt64) < am.toInt64 then fL_law_L1423 qq hh u7 u8 u10 (nI c) am (nI p) u19 u21 n mk' x (wN hh c am lim low hig thr dn b t k) (nI k + 1) else ckI 0 18 <| lt_ ((qq (0 : Int32).toNatClampNeg) + nI k) fun x23_274 => fL_law_L1423 qq hh u7 u8 u10 (nI c) am (nI p) u19 u21 n mk' x x23_274 (nI k + 1)) = some (m', (acc lim low hig thr dn b t p).1.toInt64 - b.toInt64, wN hh c am lim low hig thr dn b t 401) ∧ ∀ j, j ≠ c → j ≠ 10 + c → m' j = mm j := by
        intro mk' x p1 p2 p3 hx
        have go := ih (k + 1) mk' (by omega) (by omega) (by rw [Nat.add_sub_cancel]; exact p1) (by rw [Nat.add_sub_cancel]; exact p2) p3
        rw [Nat.add_sub_cancel, ← hx] at go
        rw [nI_1]
        by_cases w : 0 ≤ wN hh c am lim low hig thr dn b t k
        · rw [if_pos w]
          rw [hstep, if_pos w] at go
          exact go
        · rw [if_neg w, kk, k0, z0, q0, nI_add, l_held, bd1_s, cc, p1, k0, lts]
          rw [if_neg w] at hstep
          have hl := lt_sub (am := am) a1 (he_b hi c (nI (dn + k)))
          have w6 : wN hh c am lim low hig thr dn b t k = -6 := by
            cases k with
            | zero => rfl
            | succ j =>
              have hs : wN hh c am lim low hig thr dn b t (j + 1) = if 0 ≤ wN hh c am lim low hig thr dn b t j then wN hh c am lim low hig thr dn b t j else if pD hh c am lim low hig thr dn b t j = true then nI (dn + j) else -6 := rfl
              rw [hs] at w ⊢
              by_cases v : 0 ≤ wN hh c am lim low hig thr dn b t j
              · rw [if_pos v] at w; exact absurd v w
              · rw [if_neg v] at w ⊢
                by_cases v2 : pD hh c am lim low hig thr dn b t j = true
                · rw [if_pos v2] at w; exact absurd (nI_nn (by omega)) w
                · rw [if_neg v2]
          by_cases q : (acc lim low hig thr dn b t k).1 - heI hh c (nI (dn + k)) < am
          · rw [if_pos (hl.mpr q), w6]
            rw [hstep, if_neg (by unfold pD; simp [q])] at go
            exact go
          · rw [if_neg (fun z => q (hl.mp z))]
            rw [hstep, if_pos (by unfold pD; simp [q])] at go
            exact go
      by_cases z : k = 0
      · subst z
        rw [if_pos (show nI 0 = 0 from rfl)]
        unfold fL_law_J1453
        have x0 : (acc lim low hig thr dn b t (min (0 - 1) p)).1.toInt64 - b.toInt64 + 0 = (acc lim low hig thr dn b t (min 0 p)).1.toInt64 - b.toInt64 := by
          rw [Int64.add_zero, show min (0 - 1) p = 0 by omega]
        have g := main mk _ m1 m2 m3 x0
        split
        · unfold fL_law_J1470
          rw [lts]
          exact g
        · unfold fL_law_J1470
          rw [lts]
          exact g
      · obtain ⟨j, ej⟩ : ∃ j, k = j + 1 := ⟨k - 1, by omega⟩
        subst ej
        rw [Nat.add_sub_cancel] at m1 m2
        obtain ⟨b1, b2⟩ := acc_b hg hdn hb ht j (by omega)
        rw [if_neg (show ¬ nI (j + 1) = 0 from fun q => by have := nI_inj (b := 0) (by omega) (by omega) q; omega), k0, z0, q0, nI_add]
        obtain ⟨mk', i1, i2, i3, i4⟩ := l_interest (next := dn + (j + 1)) hg hq hc hc2 (D := dn + j) (by omega) (by omega) (by rw [m1, up64]; exact b1) (by rw [m2]; exact b2) m1 m2
        rw [i1, bd2_s]
        have er : sR lim low hig thr (dn + (j + 1)) (acc lim low hig thr dn b t j).1 (acc lim low hig thr dn b t j).2 = accR lim low hig thr dn b t j := rfl
        rw [er] at i2 i3 ⊢
        have a64 := acc_64 (t := t) hg hdn hb ht j (by omega)
        have i2 : mk' c = (acc lim low hig thr dn b t (j + 1)).1.toInt64 := i2
        have i3 : mk' (10 + c) = (acc lim low hig thr dn b t (j + 1)).2 := i3
        unfold fL_law_J1453
        by_cases w : p < j + 1
        · rw [if_pos ((nI_ltI (by omega) (by omega)).mpr w)]
          unfold fL_law_J1470
          rw [lts]
          refine main mk' _ i2 i3 (fun i h1 h2 => by rw [i4 i h1 h2]; exact m3 i h1 h2) ?_
          rw [Int64.add_zero, show min (j + 1 - 1) p = p by omega, show min (j + 1) p = p by omega]
        · rw [if_neg (fun q => w ((nI_ltI (by omega) (by omega)).mp q))]
          unfold fL_law_J1470
          rw [lts]
          refine main mk' _ i2 i3 (fun i h1 h2 => by rw [i4 i h1 h2]; exact m3 i h1 h2) ?_
          rw [show min (j + 1 - 1) p = j by omega, show min (j + 1) p = j + 1 by omega, a64]
          exact i64_m1 _ _ _
end AH
section AH2
variable {n E dn t1 t2 : Nat} {Asz : Int32} {Anu : Nat → Int32} {Aba : Nat → Int32} {Amo : Nat → Int32} {Aco : Nat → Int64} {Hsz : Int32} {Hla : Int32} {Hce : Nat → Int32} {Bsz : Int32} {Bla : Int32} {Bce : Nat → Int32} {Tma : Int32} {Tlc : Int32} {Ttc : Nat → Int32} {day : Int32} {lim : Int32} {low : Int32} {hig : Int32} {thr : Int32} {off : Int64} {cre : Int64} {rcp : Int64} {pay : Int64} {ee : Nat → Int32} {mm : Nat → Int64} {qq : Nat → Int32} {hh : Nat → Int32} {bb : Nat → Int32} {sv : Int32} {nx : Int32} {SL : Nat → XS} {rec : (Nat → Int32) → (Nat → Int64) → (Nat → Int32) → (Nat → Int32) → (Nat → Int32) → Int32 → (Nat → Int32) → (Nat → Int32) → Int32 → (Nat → Int32) → (Nat → Int32) → (Nat → Int32) → (Nat → Int64) → Int32 → Int32 → (Nat → Int32) → Int32 → Int32 → (Nat → Int32) → Int32 → Int32 → (Nat → Int32) → Int32 → Int32 → Int32 → Int32 → Int32 → Int64 → Int64 → Int64 → Int64 → Int32 → Int32 → (Nat → XS) → Int32 → Int32 → Option (Int32 ⊕ Unit)}
theorem ahead_x (h : PRc E dn t1 t2 Asz Anu Aba Amo Aco Hsz Hla Hce Bsz Bla Bce Tma Tlc Ttc day lim low hig thr off cre rcp pay ee mm qq hh bb) (hdn : dn ≤ 2800) {c : Nat} (h7 : c < 7) (hp : pq qq c = true) {p : Nat} (hp1 : 1 ≤ p) (hp2 : p ≤ 400) : fX7_interestIn Asz Anu Aba Aco day lim low hig thr (nI c) (nI p) = some ((acc lim low hig thr dn (mm c).toInt32 (mm (10 + c)) p).1 - (mm c).toInt32) := by
  obtain ⟨k1, k2, k3, k4, k5, k6, k7, k8, k9, k10⟩ := h
  obtain ⟨⟨s1, s2, s3, s4⟩, s5, s6, s7, s8⟩ := k10
  have hR := rk_lt hp h7
  have hR12 := rk7 (pq qq)
  obtain ⟨i1, i2, i3, i4⟩ := k3 c h7 hp
  obtain ⟨d1, d2⟩ := dn64 (v := mm c) (by omega) (by omega)
  unfold fX7_interestIn
  rw [cl_find k1 h7 hp, bd1_s, if_pos (nI_nn (by omega)), if_neg (show ¬ nI p < 1 by rw [lt_i, nI_toInt (by omega), toInt_1]; omega), if_pos (show nI p ≤ (400 : Int32) from nI_le (b := 400) hp2 (by omega))]
  unfold fX5_interestAhead
  have hm : dn % 30 < 30 := Nat.mod_lt _ (by omega)
  have g := ahead_L (lim := lim) (low := low) (hig := hig) (thr := thr) (dn := dn) (b := (mm c).toInt32) (t := mm (10 + c)) s7 (by omega) (by rw [d1]; exact ⟨i1, i2⟩) ⟨i3, i4⟩ hp2 2147483648 0 (dn - dn % 30 + 30) (by omega) (by omega) (by omega) (by omega) (by omega) 0 (Int32.sub_self _).symm
  have g : fX5_interestAhead_L37 (nI dn) lim low hig thr (nI p) 2147483648 (mm c).toInt32 (mm (10 + c)) 0 (nI dn) (nI (dn - dn % 30 + 30)) = _ := g
  rw [k1.1, X0_balanceAt hR (rk7 _), bd1_s, X0_countAt hR (rk7 _), bd1_s, s1, nextCredit_i (by omega), bd1_s, (cl_bal k1 h7 hp).1, k2 c h7 hp, g, bd1_s, bd1_s]
theorem first_x (h : PRc E dn t1 t2 Asz Anu Aba Amo Aco Hsz Hla Hce Bsz Bla Bce Tma Tlc Ttc day lim low hig thr off cre rcp pay ee mm qq hh bb) (hdn : dn ≤ 2800) {c : Nat} (h7 : c < 7) (hp : pq qq c = true) {a : Int32} (ha : 1 ≤ a.toInt ∧ a.toInt ≤ 100000000) : fX7_payableOn Asz Anu Aba Aco Hsz Hce day lim low hig thr (nI c) a = some (wN hh c a lim low hig thr dn (mm c).toInt32 (mm (10 + c)) 401) := by
  obtain ⟨k1, k2, k3, k4, k5, k6, k7, k8, k9, k10⟩ := h
  obtain ⟨⟨s1, s2, s3, s4⟩, s5, s6, s7, s8⟩ := k10
  have hn := pq_ne k1 h7 hp
  have hR := rk_lt hp h7
  have hR12 := rk7 (pq qq)
  unfold fX7_payableOn
  rw [cl_find k1 h7 hp, bd1_s, if_pos (nI_nn (by omega)), amt_i ha, bd1_s, if_neg (by decide)]
  unfold fX5_firstDayWithFree
  obtain ⟨o, g1, g2⟩ := first_L (lim := lim) (low := low) (hig := hig) (thr := thr) (dn := dn) (b := (mm c).toInt32) (t := mm (10 + c)) k4 hn.1 (by omega) (by omega) a 2147483648 0 (by omega) (by omega) rfl
  have g1 : fX5_firstDayWithFree_L32 Hsz Hce (nI dn) lim low hig thr a (nI c) 2147483648 (mm c).toInt32 (mm (10 + c)) 0 = some o := g1
  rw [k1.1, X0_numberAt hR (rk7 _), bd1_s, X0_balanceAt hR (rk7 _), bd1_s, X0_countAt hR (rk7 _), bd1_s, (k1.2.2.2 c h7 hp).1, (cl_bal k1 h7 hp).1, k2 c h7 hp, s1, g1]
  rcases g2 with ⟨r, rfl, e⟩ | ⟨rfl, e⟩
  · rw [← e]; rfl
  · rw [e]; rfl
theorem diff64 {x b : Int32} (hx : 0 ≤ x.toInt ∧ x.toInt ≤ 1000000000) (hb : 0 ≤ b.toInt ∧ b.toInt ≤ 1000000000) : (x - b).toInt64 = x.toInt64 - b.toInt64 := by
  refine Int64.toInt_inj.mp ?_
  rw [up64, sub_toInt (by omega) (by omega), sub64 (by rw [up64, up64]; omega) (by rw [up64, up64]; omega), up64, up64]
end AH2
