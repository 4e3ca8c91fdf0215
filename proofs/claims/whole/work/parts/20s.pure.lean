/-! the pure side, s: the days that pass -/
theorem gap64 {a b : Nat} (h : b ≤ a) (ha : a < 2 ^ 31) : (nI (a + 1) - nI b).toInt64 = (nI a - nI b).toInt64 + 1 ∨ a + 1 = 2 ^ 31 := by
  by_cases c : a + 1 = 2 ^ 31
  · exact Or.inr c
  · refine Or.inl ?_
    rw [nI_sub h, nI_sub (by omega)]
    refine Int64.toInt_inj.mp ?_
    have e1 : (1 : Int64).toInt = 1 := rfl
    rw [add64 (by rw [up64, nI_toInt (by omega), e1]; omega) (by rw [up64, nI_toInt (by omega), e1]; omega), up64, up64, nI_toInt (by omega), nI_toInt (by omega), e1]
    omega
theorem gapS {a b : Nat} (h : b ≤ a) (ha : a ≤ 20000) (g : Int64) : g * (nI (a + 1) - nI b).toInt64 = g * (nI a - nI b).toInt64 + g := by
  rcases gap64 h (by omega) with e | e
  · rw [e, Int64.mul_add, Int64.mul_one]
  · omega
theorem gap0 (a : Nat) (x g : Int64) : x + g * (nI a - nI a).toInt64 = x := by
  rw [Int32.sub_self, z64, Int64.mul_zero, Int64.add_zero]
theorem ovr_ff {a b : Int32} (h : a.toInt ≤ b.toInt) (l : List (Int32 × Int32 × Int32 × Int32)) : (l.filter (ovr a)).filter (ovr b) = l.filter (ovr b) := by
  rw [List.filter_filter]
  refine List.filter_congr fun x _ => ?_
  by_cases c : b ≤ x.2.2.2
  · have : a ≤ x.2.2.2 := by rw [le_i] at c ⊢; omega
    simp [ovr, c, this]
  · simp [ovr, c]
theorem RSc_swap {n C R B E dn : Nat} {Asz : Int32} {Anu : Nat → Int32} {Aba : Nat → Int32} {Amo : Nat → Int32} {Aco : Nat → Int64} {Hsz : Int32} {Hla : Int32} {Hce : Nat → Int32} {Bsz : Int32} {Bla : Int32} {Bce : Nat → Int32} {Tma : Int32} {Tlc : Int32} {Ttc : Nat → Int32} {day : Int32} {lim : Int32} {low : Int32} {hig : Int32} {thr : Int32} {off : Int64} {cre : Int64} {rcp : Int64} {pay : Int64} {st : Nat → Int32} {gr : Nat → Int64} (h : RSc n C R B E dn Asz Anu Aba Amo Aco Hsz Hla Hce Bsz Bla Bce Tma Tlc Ttc day lim low hig thr off cre rcp pay st gr) {Aco' : Nat → Int64} {Hce' : Nat → Int32} (h1 : ∀ i, i < C → Aco' i = Aco i) (h2 : ∀ j, j < 4 * R → Hce' j = Hce j) : RSc n C R B E dn Asz Anu Aba Amo Aco' Hsz Hla Hce' Bsz Bla Bce Tma Tlc Ttc day lim low hig thr off cre rcp pay st gr := by
  obtain ⟨hc, hi, hr, hrn, hh, hb, hbn, hbi, ht, hv, hE, hs⟩ := h
  refine ⟨⟨hc.1, fun i hii => by rw [h1 i hii]; exact hc.2 i hii⟩, ⟨fun i hii => by rw [h1 i hii]; exact hi.1 i hii, hi.2⟩, ⟨hr.1, fun j hj => by rw [h2 j hj]; exact hr.2 j hj⟩, ⟨fun i hii => by rw [h2 _ (by omega)]; exact hrn.1 i hii, fun i j hij hj => by rw [h2 _ (by omega), h2 _ (by omega)]; exact hrn.2.1 i j hij hj, hrn.2.2⟩, ⟨fun i hii => by rw [h2 _ (by omega), h2 _ (by omega), h2 _ (by omega)]; exact hh.1 i hii, fun c hc' => ?_⟩, hb, hbn, hbi, ht, hv, hE, hs⟩
  have : hsZ Hce' (Anu c) R = hsZ Hce (Anu c) R := sumZ_cong R (fun i hii => ⟨by rw [h2 _ (by omega)], fun _ => h2 _ (by omega)⟩)
  rw [this]
  exact hh.2 c hc'
theorem pass_L {C B t d0 : Nat} (ht : t ≤ 9999) (hd0 : d0 ≤ t) {Asz Hla Bsz Bla lim low hig thr : Int32} {Anu Bce : Nat → Int32} {off rcp pay : Int64} (u3 : Int64) : ∀ (m d D0 R E n z5 kx km : Nat) (Aba Amo : Nat → Int32) (Acx Acv : Nat → Int64) (Hsz : Int32) (Hce : Nat → Int32) (Tma Tlc : Int32) (Ttc : Nat → Int32) (cre : Int64) (st : Nat → Int32) (gr : Nat → Int64) (tb : Int32) (tk x2 : Int64), d + m = t → d0 ≤ d → D0 ≤ d → d < z5 → z5 % 30 = 0 → z5 ≤ d + 30 → m < kx → m < km → n + 12 * m + 13 < 2 ^ 31 →
    RSc n C R B E d Asz Anu Aba Amo Acv Hsz Hla Hce Bsz Bla Bce Tma Tlc Ttc (nI d) lim low hig thr off cre rcp pay st gr → (∀ i, i < C → Acv i = Acx i + growL lim low hig (Aba i) * (nI d - nI D0).toInt64) →
    ∃ Aba' Amo' Acx' Acv' Hsz' Hce' T1 T2 T3 cre' D0' st' gr' tb' tk' R' E' s,
      fX5_letPass_L48 Asz Anu lim low hig thr (nI t) u3 kx Aba Amo Acx Tma Tlc Ttc (nI D0) cre (nI z5) = some (Aba', Amo', Acx', T1, T2, T3, nI D0', cre') ∧
      fX8_passes_L5 (nI (t - d0)) km st gr tb tk x2 (nI (d - d0)) = some (st', gr', tb', tk', x2 + s) ∧ cre' = cre + s ∧ (0 ≤ s.toInt ∧ s.toInt ≤ 12000000000 * (m : Int)) ∧ D0' ≤ t ∧
      RSc (n + 12 * m) C R' B E' t Asz Anu Aba' Amo' Acv' Hsz' Hla Hce' Bsz Bla Bce T1 T2 T3 (nI t) lim low hig thr off cre' rcp pay st' gr' ∧ (∀ i, i < C → Acv' i = Acx' i + growL lim low hig (Aba' i) * (nI t - nI D0').toInt64) ∧ rowsL Hce' R' = (rowsL Hce R).filter (ovr (nI t)) := by
  intro m
  induction m with
  | zero =>
    intro d D0 R E n z5 kx km Aba Amo Acx Acv Hsz Hce Tma Tlc Ttc cre st gr tb tk x2 h1 h2 h3 h4 h5 h6 h7 h8 h9 h hA
    obtain ⟨a, ea⟩ : ∃ a, kx = a + 1 := ⟨kx - 1, by omega⟩
    obtain ⟨b, eb⟩ : ∃ b, km = b + 1 := ⟨km - 1, by omega⟩
    have ed : d = t := by omega
    subst ea; subst eb; subst ed
    rw [fX5_letPass_L48, fX8_passes_L5, if_pos (show nI d < nI z5 by rw [lt_i, nI_toInt (by omega), nI_toInt (by omega)]; omega), if_pos (nI_le (by omega) (by omega))]
    refine ⟨Aba, Amo, Acx, Acv, Hsz, Hce, Tma, Tlc, Ttc, cre, D0, st, gr, tb, tk, R, E, 0, rfl, by rw [Int64.add_zero], by rw [Int64.add_zero], ⟨by decide, by decide⟩, h3, h, hA, ?_⟩
    exact (rowsL_all fun i hi => (h.2.2.2.2.1.1 i hi).2.2.2).symm
  | succ m ih =>
    intro d D0 R E n z5 kx km Aba Amo Acx Acv Hsz Hce Tma Tlc Ttc cre st gr tb tk x2 h1 h2 h3 h4 h5 h6 h7 h8 h9 h hA
    obtain ⟨b, eb⟩ : ∃ b, km = b + 1 := ⟨km - 1, by omega⟩
    subst eb
    have hz : Asz = nI C := h.1.1.1
    have hC : C ≤ 12 := h.1.1.2.2
    have ejj : nI (d - d0) + 1 = nI (d + 1 - d0) := by rw [nI_1]; exact congrArg nI (by omega)
    rw [fX8_passes_L5, if_neg (nI_ge (by omega) (by omega))]
    by_cases q : d + 1 = z5
    · obtain ⟨a, ea⟩ : ∃ a, kx = a + 1 := ⟨kx - 1, by omega⟩
      subst ea
      obtain ⟨Acg, g1, g2⟩ := grow_i hC Aba Acx (nI D0) lim low hig (nI z5)
      have hg : ∀ i, i < C → Acg i = Acv i + growL lim low hig (Aba i) := fun i hi => by
        rw [g2 i, if_pos hi, hA i hi, ← q, gapS h3 (by omega), Int64.add_assoc]
      obtain ⟨Aba', Amo', Aco', Hsz', Hce', T1, T2, T3, cre', st', gr', tb', tk', R', E', s, m1, m2, m3, m4, m5, m6⟩ := day_i h (by omega) (by omega) tb tk Acg hg
      rcases m2 with ⟨c1, c2⟩ | ⟨c1, -⟩
      · obtain ⟨Aba2, Amo2, Acx2, Acv2, Hsz2, Hce2, U1, U2, U3, cre2, D2, st2, gr2, tb2, tk2, R2, E2, s2, r1, r2, r3, r4, r5, r6, r7, r8⟩ := ih (d + 1) (d + 1) R' E' (n + 12) (z5 + 30) a b Aba' Amo' Aco' Aco' Hsz' Hce' T1 T2 T3 cre' st' gr' tb' tk' (x2 + s) (by omega) (by omega) (by omega) (by omega) (by omega) (by omega) (by omega) (by omega) (by omega) m6 (fun i hi => by rw [gap0])
        have ss : (s + s2).toInt = s.toInt + s2.toInt := add64 (by omega) (by omega)
        refine ⟨Aba2, Amo2, Acx2, Acv2, Hsz2, Hce2, U1, U2, U3, cre2, D2, st2, gr2, tb2, tk2, R2, E2, s + s2, ?_, ?_, by rw [r3, m3, Int64.add_assoc], ⟨by rw [ss]; omega, by rw [ss]; push_cast; omega⟩, r5, by rw [show n + 12 * (m + 1) = n + 12 + 12 * m by omega]; exact r6, r7, ?_⟩
        · rw [fX5_letPass_L48, if_neg (by rw [lt_i, nI_toInt (by omega), nI_toInt (by omega)]; omega), hz, g1, bd2_s, ← q, ← hz, c2, bd7_s, lit_30, nI_add, q]
          rw [← q] at r1 ⊢
          exact r1
        · rw [m1, bd5_s, lts, ejj, r2, Int64.add_assoc]
        · rw [r8, m5, ovr_ff (by rw [nI_toInt (by omega), nI_toInt (by omega)]; omega)]
      · omega
    · obtain ⟨Aba', Amo', Aco', Hsz', Hce', T1, T2, T3, cre', st', gr', tb', tk', R', E', s, m1, m2, m3, m4, m5, m6⟩ := day_i h (by omega) (by omega) tb tk (fun i => Acv i + growL lim low hig (Aba i)) (fun i _ => rfl)
      rcases m2 with ⟨c1, -⟩ | ⟨c1, c2, c3, c4, c5, c6, c7, c8⟩
      · omega
      · subst c2; subst c3; subst c4; subst c5; subst c6; subst c7
        obtain ⟨Aba2, Amo2, Acx2, Acv2, Hsz2, Hce2, U1, U2, U3, cre2, D2, st2, gr2, tb2, tk2, R2, E2, s2, r1, r2, r3, r4, r5, r6, r7, r8⟩ := ih (d + 1) D0 R' E' (n + 12) z5 kx b _ _ Acx _ Hsz' Hce' _ _ _ cre' st' gr' tb' tk' (x2 + s) (by omega) (by omega) (by omega) (by omega) (by omega) (by omega) (by omega) (by omega) (by omega) m6 (fun i hi => by
          show Acv i + growL lim low hig _ = _
          rw [hA i hi, gapS h3 (by omega), Int64.add_assoc])
        have ss : (s + s2).toInt = s.toInt + s2.toInt := add64 (by omega) (by omega)
        refine ⟨Aba2, Amo2, Acx2, Acv2, Hsz2, Hce2, U1, U2, U3, cre2, D2, st2, gr2, tb2, tk2, R2, E2, s + s2, by rw [← c8]; exact r1, ?_, by rw [r3, m3, Int64.add_assoc], ⟨by rw [ss]; omega, by rw [ss]; push_cast; omega⟩, r5, by rw [show n + 12 * (m + 1) = n + 12 + 12 * m by omega]; exact r6, r7, ?_⟩
        · rw [m1, bd5_s, lts, ejj, r2, Int64.add_assoc]
        · rw [r8, m5, ovr_ff (by rw [nI_toInt (by omega), nI_toInt (by omega)]; omega)]
