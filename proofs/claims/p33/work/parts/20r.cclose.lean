/-! the law's acts: open, close, rates (their cases) -/
section CCC
variable {n E dn t1 t2 : Nat} {Asz : Int32} {Anu : Nat → Int32} {Aba : Nat → Int32} {Amo : Nat → Int32} {Aco : Nat → Int64} {Hsz : Int32} {Hla : Int32} {Hce : Nat → Int32} {Bsz : Int32} {Bla : Int32} {Bce : Nat → Int32} {Tma : Int32} {Tlc : Int32} {Ttc : Nat → Int32} {day : Int32} {lim : Int32} {low : Int32} {hig : Int32} {thr : Int32} {off : Int64} {cre : Int64} {rcp : Int64} {pay : Int64} {ee : Nat → Int32} {mm : Nat → Int64} {qq : Nat → Int32} {hh : Nat → Int32} {bb : Nat → Int32} {sv : Int32} {nx : Int32} {SL : Nat → XS} {rec : (Nat → Int32) → (Nat → Int64) → (Nat → Int32) → (Nat → Int32) → (Nat → Int32) → Int32 → (Nat → Int32) → (Nat → Int32) → Int32 → (Nat → Int32) → (Nat → Int32) → (Nat → Int32) → (Nat → Int64) → Int32 → Int32 → (Nat → Int32) → Int32 → Int32 → (Nat → Int32) → Int32 → Int32 → (Nat → Int32) → Int32 → Int32 → Int32 → Int32 → Int32 → Int64 → Int64 → Int64 → Int64 → Int32 → Int32 → (Nat → XS) → Int32 → Int32 → Option (Int32 ⊕ Unit)}
theorem case_open (hr : HR rec n) (hn : n < 40) (h : PR n Asz Anu Aba Amo Aco Hsz Hla Hce Bsz Bla Bce Tma Tlc Ttc day lim low hig thr off cre rcp pay ee mm qq hh bb sv nx SL) (scL : Nat) (scx : Nat → Int32) (Ksz : Int32) (Kcl : Nat → Int32) (Kke : Nat → Int32) (z7 z10 : Int32) {c : Nat} (hc : 1 ≤ c ∧ c < 6) {z14 : Int32} (hz : (z14 = 1 ∧ pq qq c = true) ∨ (z14 = 0 ∧ pq qq c = false)) :
    (bd9 (fX7_open Asz Anu Aba Amo Aco Hsz Hla Hce Bsz Bla Bce Tma Tlc Ttc day lim low hig thr off cre rcp pay sv nx SL (nI c)) fun r_531 Asz_532 Anu_533 Aba_534 Amo_535 Aco_536 sv_537 nx_538 SL_539 => if z14 = 0 then (bd1 (fL_clients qq) fun r_542 => fL_law_J249 scL scx ee mm qq hh bb Ksz Kcl Kke Asz_532 Anu_533 Aba_534 Amo_535 Aco_536 Hsz Hla Hce Bsz Bla Bce Tma Tlc Ttc day lim low hig thr off cre rcp pay sv_537 nx_538 SL_539 z7 (nI n) z10 (nI c) z14 (r_542 + 1) r_531 rec) else fL_law_J249 scL scx ee mm qq hh bb Ksz Kcl Kke Asz_532 Anu_533 Aba_534 Amo_535 Aco_536 Hsz Hla Hce Bsz Bla Bce Tma Tlc Ttc day lim low hig thr off cre rcp pay sv_537 nx_538 SL_539 z7 (nI n) z10 (nI c) z14 (-3) r_531 rec) = some (.inr ()) := by
  obtain ⟨⟨E, dn, t1, t2, h, hE, hdn⟩, hs, -⟩ := h
  obtain ⟨SL', q1⟩ := prep_b Asz Anu Aba Amo Aco Hsz Hla Hce Bsz Bla Bce Tma Tlc Ttc day lim low hig thr off cre rcp pay hs SL
  obtain ⟨sv', nx', q2, q3⟩ := keep_b (sv := sv) hs
  have hR7 := rk_bd (pq qq) 7
  have k0 : ∀ {β : Type} (k : Option β), ckI 0 18 k = k := fun k => ckI_ok (i := 0) (by omega) (by omega)
  have z0 : (0 : Int32).toNatClampNeg = 0 := rfl
  have e0 := h.2.2.2.2.2.2.2.2.2.1.2.1
  have cc : (nI c).toNatClampNeg = c := nI_clamp (by omega)
  have kk : ∀ {β : Type} (k : Option β), ckI (nI c) 25 k = k := fun k => kc25 (by omega) k
  have kk1 : ∀ {β : Type} (k : Option β), ckI (10 + nI c) 25 k = k := fun k => by rw [show (10 : Int32) + nI c = nI (10 + c) from nI_add 10 c]; exact ckI_ok (by omega) (by omega)
  rcases hz with ⟨rfl, hp⟩ | ⟨rfl, hp⟩
  · have hRk := rk_lt hp (show c < 7 by omega)
    have e : fX5_openAccount Asz Anu Aba Amo Aco day (nI c) = some (-3, Asz, Anu, Aba, Amo, Aco) := by
      unfold fX5_openAccount
      rw [if_neg (show ¬ nI c < 1 by rw [lt_i, nI_toInt (by omega), toInt_1]; omega), if_pos (show nI c ≤ (99 : Int32) from nI_le (b := 99) (by omega) (by omega)), cl_find h.1 (by omega) hp, bd1_s, if_neg (nI_nl (by omega))]
    have e7 : fX7_open Asz Anu Aba Amo Aco Hsz Hla Hce Bsz Bla Bce Tma Tlc Ttc day lim low hig thr off cre rcp pay sv nx SL (nI c) = some (-3, Asz, Anu, Aba, Amo, Aco, sv, nx, SL') := by
      unfold fX7_open
      rw [q1, bd1_s, e, bd6_s, kept_neg (by decide), bd3_s]
    rw [e7, bd9_s, if_neg (by decide)]
    unfold fL_law_J249
    rw [if_pos rfl, if_neg (by decide)]
    exact fin_ok hr hn h (by omega) (by omega) hs scL scx Ksz Kcl Kke z7 z10
  · obtain ⟨Anu', Aba', Amo', Aco', x1, x2⟩ := open_x h (by omega) hc hp
    have e7 : fX7_open Asz Anu Aba Amo Aco Hsz Hla Hce Bsz Bla Bce Tma Tlc Ttc day lim low hig thr off cre rcp pay sv nx SL (nI c) = some (nI (rk (pq qq) 7 + 1), nI (rk (pq qq) 7 + 1), Anu', Aba', Amo', Aco', sv', nx', SL') := by
      unfold fX7_open
      rw [q1, bd1_s, x1, bd6_s, kept_pos (nI_nn (by omega)) q2, bd3_s]
    rw [e7, bd9_s, if_pos rfl, l_clients h.1.2.1, bd1_s, nI_1]
    unfold fL_law_J249
    rw [if_pos rfl, if_pos rfl]
    simp only [k0, z0, k18 (show c < 8 by omega), c18 (show c < 8 by omega), kk, kk1, cc, lts, e0]
    exact fin_ok hr hn x2 (by omega) (by omega) q3 scL scx Ksz Kcl Kke z7 z10
theorem cI_0 {bb qq : Nat → Int32} (c : Nat) : (cI bb c ≤ 0 ↔ ¬ ∃ k, k < 20 ∧ bb (3 * k) = nI c) := by
  have g := sum_toInt20 (t := fun k => decide (bb (3 * k) = nI c)) (a := fun _ => 1) 20 (by omega) (fun i _ => ⟨by rw [toInt_1]; omega, by rw [toInt_1]; omega⟩)
  have e : (cI bb c).toInt = sumZ (fun k => decide (bb (3 * k) = nI c)) (fun _ => 1) 20 := g.1
  rw [le_i, toInt_0, e]
  refine ⟨fun q ⟨k, h1, h2⟩ => ?_, fun q => ?_⟩
  · have := sumZ_some (t := fun k => decide (bb (3 * k) = nI c)) (a := fun _ => (1 : Int32)) 20 (fun i _ => by show 1 ≤ (1 : Int32).toInt; rw [toInt_1]; omega) k h1 (decide_eq_true h2)
    omega
  · have := sumZ_none (t := fun k => decide (bb (3 * k) = nI c)) (a := fun _ => (1 : Int32)) 20 (fun i hi => decide_eq_false fun w => q ⟨i, hi, w⟩)
    omega
theorem close_x (h : PRc E dn t1 t2 Asz Anu Aba Amo Aco Hsz Hla Hce Bsz Bla Bce Tma Tlc Ttc day lim low hig thr off cre rcp pay ee mm qq hh bb) {c : Nat} (hc : 1 ≤ c ∧ c < 6) (hp : pq qq c = true) (hm : mm c = 0) (hb : ¬ ∃ k, k < 20 ∧ bb (3 * k) = nI c) :
    ∃ Anu' Aba' Amo' Aco', fX5_closeAccount Asz Anu Aba Amo Aco Bsz Bce (nI c) = some (nI (rk (pq qq) 7 - 1), nI (rk (pq qq) 7 - 1), Anu', Aba', Amo', Aco') ∧ PRc E dn t1 t2 (nI (rk (pq qq) 7 - 1)) Anu' Aba' Amo' Aco' Hsz Hla Hce Bsz Bla Bce Tma Tlc Ttc day lim low hig thr off cre rcp pay ee mm (upd qq (10 + c) (-1)) hh bb := by
  obtain ⟨k1, k2, k3, k4, k5, k6, k7, k8, k9, k10⟩ := h
  obtain ⟨⟨s1, s2, s3, s4⟩, s5, ⟨s6, s7, s8, s9⟩, s10, s11⟩ := k10
  have hR7 := rk_bd (pq qq) 7
  have hQ : ∀ k, k < 7 → pq (upd qq (10 + c) (-1)) k = (pq qq k && !decide (k = c)) := fun k hk => by
    unfold pq
    by_cases e : k = c
    · subst e; rw [upd_s]; simp
    · rw [upd_n (by omega)]; simp [e]
  have hr := rk_rm hp (show c < 7 by omega) hQ
  have h7 := (hr 7 (Nat.le_refl _)).2 (by omega)
  have hRk := rk_lt hp (show c < 7 by omega)
  have hold : ∀ k, k < 7 → pq (upd qq (10 + c) (-1)) k = true → k ≠ c ∧ pq qq k = true := fun k hk hpk => by
    rw [hQ k hk] at hpk
    cases w : pq qq k with
    | true =>
      rw [w] at hpk
      exact ⟨by simpa using hpk, rfl⟩
    | false => rw [w] at hpk; simp at hpk
  have hnew : ∀ k, k < 7 → k ≠ c → pq qq k = true → pq (upd qq (10 + c) (-1)) k = true := fun k hk hne hpk => by rw [hQ k hk, hpk]; simp [hne]
  have hpc : pq (upd qq (10 + c) (-1)) c = false := by rw [hQ c (by omega)]; simp
  obtain ⟨nu', ba', mo', co', i1, i2⟩ := del_L (C := rk (pq qq) 7) (rk7 _) 2147483648 (rk (pq qq) c) Anu Aba Amo Aco hRk (by omega)
  have hzc : hz hh c ≤ 0 := by
    have := k6.2 c (by omega) hp
    rw [hm] at this
    exact this
  have noh : ∀ k, k < 20 → ¬ (pw hh k = true ∧ hh (3 * k) = nI c) := fun k hk ⟨q1, q2⟩ => by
    have p1 := ((k5 k hk).2.2 q1).1
    have g := sumZ_le (t := fun j => decide (hh (3 * j) = nI c)) (u := fun j => decide (j = k)) (a := fun j => hh (3 * j + 1)) 20 (fun j hj => ⟨(k5 j hj).2.1.1, fun w => by have w := of_decide_eq_true w; subst w; exact decide_eq_true q2⟩)
    have g2 := sumZ_put (t := fun _ => false) (u := fun j => decide (j = k)) (a := fun j => hh (3 * j + 1)) (b := fun j => hh (3 * j + 1)) (g := k) (v := (hh (3 * k + 1)).toInt) rfl (by simp) (fun j hj => ⟨by simp [hj], rfl⟩) 20 hk
    have g3 := sumZ_none (t := fun _ => false) (a := fun j => hh (3 * j + 1)) 20 (fun _ _ => rfl)
    have : hz hh c = sumZ (fun j => decide (hh (3 * j) = nI c)) (fun j => hh (3 * j + 1)) 20 := rfl
    omega
  refine ⟨nu', ba', mo', co', ?_, ⟨by rw [show rk (pq qq) 7 - 1 = rk (pq (upd qq (10 + c) (-1))) 7 by omega], ?_, ?_, fun k hk hpk => ?_⟩, fun k hk hpk => ?_, fun k hk hpk => ?_, k4, fun k hk => ?_, ⟨k6.1, fun k hk hpk => ?_⟩, k7, fun k hk => ?_, ?_, ⟨⟨s1, by rw [upd_n (by omega)]; exact s2, by rw [upd_n (by omega)]; exact s3, by rw [upd_n (by omega)]; exact s4⟩, ⟨by rw [upd_n (by omega)]; exact s5.1, by rw [upd_n (by omega)]; exact s5.2.1, by rw [upd_n (by omega)]; exact s5.2.2.1, by rw [upd_n (by omega)]; exact s5.2.2.2⟩, ⟨s6, s7, s8, s9⟩, s10, ?_⟩⟩
  · unfold fX5_closeAccount
    rw [cl_find k1 (by omega) hp, bd1_s, if_pos (nI_nn (by omega)), k1.1, X0_balanceAt hRk (rk7 _), bd1_s, (cl_bal k1 (by omega) hp).1, hm, if_pos (by decide), rw_count k7 hc.1 (by omega), bd1_s, if_pos ((cI_0 (qq := qq) c).mpr hb)]
    unfold fX0_remove
    have sb : nI (rk (pq qq) 7) - 1 = nI (rk (pq qq) 7 - 1) := nI_sub (b := 1) (by omega)
    rw [X0_place hRk (rk7 _), bd1_s, if_neg (by decide), i1, bd4_s, lts, sb, bd5_s]
  · rw [hQ 0 (by omega), k1.2.1]; rfl
  · rw [hQ 6 (by omega), k1.2.2.1]; rfl
  · obtain ⟨e, hpo⟩ := hold k hk hpk
    obtain ⟨w1, w2, w3⟩ := k1.2.2.2 k hk hpo
    have hlt := rk_lt hpk hk
    obtain ⟨v1, v2, v3, v4⟩ := i2 (rk (pq (upd qq (10 + c) (-1))) k) (by omega)
    rw [upd_n (f := qq) (by omega), v1, v2, v3]
    rcases Nat.lt_or_gt_of_ne e with q | q
    · have e2 := (hr k (by omega)).1 (by omega)
      have := rk_lt hpo q
      rw [e2, if_neg (by omega)]
      exact ⟨w1, w2, w3⟩
    · have e2 := (hr k (by omega)).2 q
      have := rk_lt hp q
      rw [if_pos (by omega), e2]
      exact ⟨w1, w2, w3⟩
  · obtain ⟨e, hpo⟩ := hold k hk hpk
    have w1 := k2 k hk hpo
    have hlt := rk_lt hpk hk
    obtain ⟨v1, v2, v3, v4⟩ := i2 (rk (pq (upd qq (10 + c) (-1))) k) (by omega)
    rw [v4]
    rcases Nat.lt_or_gt_of_ne e with q | q
    · have e2 := (hr k (by omega)).1 (by omega)
      have := rk_lt hpo q
      rw [e2, if_neg (by omega)]
      exact w1
    · have e2 := (hr k (by omega)).2 q
      have := rk_lt hp q
      rw [if_pos (by omega), e2]
      exact w1
  · exact k3 k hk (hold k hk hpk).2
  · obtain ⟨o1, o2, o3⟩ := k5 k hk
    refine ⟨o1, o2, fun q => ?_⟩
    obtain ⟨o4, c', c1, c2, c3⟩ := o3 q
    exact ⟨o4, c', c1, hnew c' c1 (fun w => noh k hk ⟨q, by rw [c3, w]⟩) c2, c3⟩
  · exact k6.2 k hk (hold k hk hpk).2
  · obtain ⟨o1, o2, o3⟩ := k8 k hk
    refine ⟨o1, o2, fun q => ?_⟩
    obtain ⟨o4, c', c1, c2, c3⟩ := o3 q
    exact ⟨o4, c', c1, hnew c' c1 (fun w => hb ⟨k, hk, by rw [c3, w]⟩) c2, c3⟩
  · obtain ⟨w1, w2, w3, w4⟩ := k9
    exact ⟨w1, by rw [upd_n (by omega)]; exact w2, w3, w4⟩
  · rw [← sumC_new (t := pq (upd qq (10 + c) (-1))) (u := pq qq) (a := mm) (b := mm) (c := c) (N := 7) hpc hp hm (fun k hk hne => ⟨by rw [hQ k hk]; simp [hne], rfl⟩) 7 (Nat.le_refl _)]
    exact s11
theorem case_close (hr : HR rec n) (hn : n < 40) (h : PR n Asz Anu Aba Amo Aco Hsz Hla Hce Bsz Bla Bce Tma Tlc Ttc day lim low hig thr off cre rcp pay ee mm qq hh bb sv nx SL) (scL : Nat) (scx : Nat → Int32) (Ksz : Int32) (Kcl : Nat → Int32) (Kke : Nat → Int32) (z7 z10 : Int32) {c : Nat} (hc : 1 ≤ c ∧ c < 6) {z14 : Int32} (hz : (z14 = 1 ∧ pq qq c = true) ∨ (z14 = 0 ∧ pq qq c = false)) :
    (bd1 (fL_law_L2173 bb z7 (nI n) z10 (nI c) z14 2147483648 0 0) fun x16_53 => if z14 = 0 then fL_law_J2232 scL scx ee mm qq hh bb Ksz Kcl Kke Asz Anu Aba Amo Aco Hsz Hla Hce Bsz Bla Bce Tma Tlc Ttc day lim low hig thr off cre rcp pay sv nx SL z7 (nI n) z10 (nI c) z14 0 rec else ckI (nI c) 25 <| if (mm (nI c).toNatClampNeg) = 0 then (if x16_53 = 0 then fL_law_J2232 scL scx ee mm qq hh bb Ksz Kcl Kke Asz Anu Aba Amo Aco Hsz Hla Hce Bsz Bla Bce Tma Tlc Ttc day lim low hig thr off cre rcp pay sv nx SL z7 (nI n) z10 (nI c) z14 1 rec else fL_law_J2232 scL scx ee mm qq hh bb Ksz Kcl Kke Asz Anu Aba Amo Aco Hsz Hla Hce Bsz Bla Bce Tma Tlc Ttc day lim low hig thr off cre rcp pay sv nx SL z7 (nI n) z10 (nI c) z14 0 rec) else fL_law_J2232 scL scx ee mm qq hh bb Ksz Kcl Kke Asz Anu Aba Amo Aco Hsz Hla Hce Bsz Bla Bce Tma Tlc Ttc day lim low hig thr off cre rcp pay sv nx SL z7 (nI n) z10 (nI c) z14 0 rec) = some (.inr ()) := by
  obtain ⟨⟨E, dn, t1, t2, h, hE, hdn⟩, hs, -⟩ := h
  obtain ⟨SL', q1⟩ := prep_b Asz Anu Aba Amo Aco Hsz Hla Hce Bsz Bla Bce Tma Tlc Ttc day lim low hig thr off cre rcp pay hs SL
  obtain ⟨sv', nx', q2, q3⟩ := keep_b (sv := sv) hs
  have hR7 := rk_bd (pq qq) 7
  have cc : (nI c).toNatClampNeg = c := nI_clamp (by omega)
  have kk : ∀ {β : Type} (k : Option β), ckI (nI c) 25 k = k := fun k => kc25 (by omega) k
  obtain ⟨b, b1, b2, b3⟩ := l_bills (hh := bb) (u7 := z7) (u8 := nI n) (u10 := z10) (u14 := z14) (c := c)
  rw [b1, bd1_s]
  rcases hz with ⟨rfl, hp⟩ | ⟨rfl, hp⟩
  · have hRk := rk_lt hp (show c < 7 by omega)
    rw [if_neg (by decide), kk, cc]
    have bl := cl_bal h.1 (by omega) hp
    have no : fX5_closeAccount Asz Anu Aba Amo Aco Bsz Bce (nI c) = some (-3, Asz, Anu, Aba, Amo, Aco) → fL_law_J2232 scL scx ee mm qq hh bb Ksz Kcl Kke Asz Anu Aba Amo Aco Hsz Hla Hce Bsz Bla Bce Tma Tlc Ttc day lim low hig thr off cre rcp pay sv nx SL z7 (nI n) z10 (nI c) 1 0 rec = some (.inr ()) := fun e => by
      have e7 : fX7_close Asz Anu Aba Amo Aco Hsz Hla Hce Bsz Bla Bce Tma Tlc Ttc day lim low hig thr off cre rcp pay sv nx SL (nI c) = some (-3, Asz, Anu, Aba, Amo, Aco, sv, nx, SL') := by
        unfold fX7_close
        rw [q1, bd1_s, e, bd6_s, kept_neg (by decide), bd3_s]
      unfold fL_law_J2232
      rw [e7, bd9_s, if_neg (by decide), if_pos rfl]
      unfold fL_law_J2265
      rw [if_pos rfl, if_pos rfl]
      exact fin_ok hr hn h (by omega) (by omega) hs scL scx Ksz Kcl Kke z7 z10
    by_cases m0 : mm c = 0
    · rw [if_pos m0]
      by_cases bz : b = 0
      · rw [if_pos bz]
        have nb : ¬ ∃ k, k < 20 ∧ bb (3 * k) = nI c := fun w => by have := b3.mpr w; rw [bz] at this; exact absurd this (by decide)
        obtain ⟨Anu', Aba', Amo', Aco', x1, x2⟩ := close_x h hc hp m0 nb
        have e7 : fX7_close Asz Anu Aba Amo Aco Hsz Hla Hce Bsz Bla Bce Tma Tlc Ttc day lim low hig thr off cre rcp pay sv nx SL (nI c) = some (nI (rk (pq qq) 7 - 1), nI (rk (pq qq) 7 - 1), Anu', Aba', Amo', Aco', sv', nx', SL') := by
          unfold fX7_close
          rw [q1, bd1_s, x1, bd6_s, kept_pos (nI_nn (by omega)) q2, bd3_s]
        have sb : nI (rk (pq qq) 7) - 1 = nI (rk (pq qq) 7 - 1) := nI_sub (b := 1) (by omega)
        unfold fL_law_J2232
        rw [e7, bd9_s, if_neg (by decide), if_neg (by decide), l_clients h.1.2.1, bd1_s, sb]
        unfold fL_law_J2265
        rw [if_pos rfl, if_neg (by decide), k18 (by omega), lts, c18 (by omega)]
        exact fin_ok hr hn x2 (by omega) (by omega) q3 scL scx Ksz Kcl Kke z7 z10
      · rw [if_neg bz]
        refine no ?_
        unfold fX5_closeAccount
        rw [cl_find h.1 (by omega) hp, bd1_s, if_pos (nI_nn (by omega)), h.1.1, X0_balanceAt hRk (rk7 _), bd1_s, bl.1, m0, if_pos (by decide), rw_count h.2.2.2.2.2.2.1 hc.1 (by omega), bd1_s, if_neg (fun w => (cI_0 (qq := qq) c).mp w (b3.mp (b2.resolve_left bz)))]
    · rw [if_neg m0]
      refine no ?_
      unfold fX5_closeAccount
      have mz : ¬ (mm c).toInt32 = 0 := fun w => m0 (by
        have e := (h.1.2.2.2 c (by omega) hp).2.1
        rw [bl.1, w] at e
        exact e.symm)
      rw [cl_find h.1 (by omega) hp, bd1_s, if_pos (nI_nn (by omega)), h.1.1, X0_balanceAt hRk (rk7 _), bd1_s, bl.1, if_neg mz]
  · have e : fX5_closeAccount Asz Anu Aba Amo Aco Bsz Bce (nI c) = some (-1, Asz, Anu, Aba, Amo, Aco) := by
      unfold fX5_closeAccount
      rw [cl_findn h.1 (by omega) hp, bd1_s, if_neg (by decide)]
    have e7 : fX7_close Asz Anu Aba Amo Aco Hsz Hla Hce Bsz Bla Bce Tma Tlc Ttc day lim low hig thr off cre rcp pay sv nx SL (nI c) = some (-1, Asz, Anu, Aba, Amo, Aco, sv, nx, SL') := by
      unfold fX7_close
      rw [q1, bd1_s, e, bd6_s, kept_neg (by decide), bd3_s]
    rw [if_pos rfl]
    unfold fL_law_J2232
    rw [e7, bd9_s, if_pos rfl]
    unfold fL_law_J2265
    rw [if_pos rfl, if_pos rfl]
    exact fin_ok hr hn h (by omega) (by omega) hs scL scx Ksz Kcl Kke z7 z10
theorem rates_1 (hr : HR rec n) (hn : n < 40) (h : PR n Asz Anu Aba Amo Aco Hsz Hla Hce Bsz Bla Bce Tma Tlc Ttc day lim low hig thr off cre rcp pay ee mm qq hh bb sv nx SL) (scL : Nat) (scx : Nat → Int32) (Ksz : Int32) (Kcl : Nat → Int32) (Kke : Nat → Int32) (z7 z9 z10 : Int32) {b : Nat} (hb : b < 900000000) : fL_law_J1658 scL scx ee mm qq hh bb Ksz Kcl Kke Asz Anu Aba Amo Aco Hsz Hla Hce Bsz Bla Bce Tma Tlc Ttc day lim low hig thr off cre rcp pay sv nx SL z7 (nI n) z9 z10 (nI b) rec = some (.inr ()) := by
  obtain ⟨⟨E, dn, t1, t2, h, hE, hdn⟩, hs, -⟩ := h
  obtain ⟨SL', q1⟩ := prep_b Asz Anu Aba Amo Aco Hsz Hla Hce Bsz Bla Bce Tma Tlc Ttc day lim low hig thr off cre rcp pay hs SL
  obtain ⟨sv', nx', q2, q3⟩ := keep_b (sv := sv) hs
  obtain ⟨x, hx, ex⟩ := low_i (z10 >>> (4 &&& 31)) (n := 2001) (by omega) (by omega)
  obtain ⟨y, hy, ey⟩ := low_i (z9 >>> (8 &&& 31)) (n := 2001) (by omega) (by omega)
  obtain ⟨w, hw, ew⟩ := low_i (z10 >>> (9 &&& 31)) (n := 200) (by omega) (by omega)
  have ex : fL_low (z10 >>> (4 &&& 31)) 2001 = some (nI x) := ex
  have ey : fL_low (z9 >>> (8 &&& 31)) 2001 = some (nI y) := ey
  have ew : fL_low (z10 >>> (9 &&& 31)) 200 = some (nI w) := ew
  obtain ⟨SL2, q4⟩ := prep_b Asz Anu Aba Amo Aco Hsz Hla Hce Bsz Bla Bce Tma Tlc Ttc day (nI b) (nI x) (nI y) thr off cre rcp pay q3 SL'
  obtain ⟨sv2, nx2, q5, q6⟩ := keep_b (sv := sv') q3
  have hh0 := h
  obtain ⟨k1, k2, k3, k4, k5, k6, k7, k8, k9, k10⟩ := hh0
  obtain ⟨⟨s1, s2, s3, s4⟩, ⟨s5, s5b, s5c, s5d⟩, s6, ⟨l1, l2, l3, l4⟩, s11⟩ := k10
  have a1 : fX5_changeRates lim low hig (nI b) (nI x) (nI y) = some (lim, nI b, nI x, nI y) := by
    unfold fX5_changeRates
    rw [if_neg (nI_nl (by omega)), if_neg (show ¬ (1000000000 : Int32) < nI b by rw [lt_i, toInt_e9, nI_toInt (by omega)]; omega), if_neg (nI_nl (by omega)), if_neg (show ¬ (2000 : Int32) < nI x by rw [lt_i, nI_toInt (by omega)]; have : (2000 : Int32).toInt = 2000 := rfl; omega), if_neg (nI_nl (by omega)), if_pos (show nI y ≤ (2000 : Int32) from nI_le (b := 2000) (by omega) (by omega))]
  have a2 : fX5_changeThreshold thr (nI w) = some (thr, nI w) := by
    unfold fX5_changeThreshold
    rw [if_neg (nI_nl (by omega)), if_pos (show nI w ≤ (10000 : Int32) from nI_le (b := 10000) (by omega) (by omega))]
  have e7 : fX7_setRates Asz Anu Aba Amo Aco Hsz Hla Hce Bsz Bla Bce Tma Tlc Ttc day lim low hig thr off cre rcp pay sv nx SL (nI b) (nI x) (nI y) = some (lim, nI b, nI x, nI y, sv', nx', SL') := by
    unfold fX7_setRates
    rw [q1, bd1_s, a1, bd4_s, kept_pos (by rw [le_i, toInt_0]; exact l1.1) q2, bd3_s]
  have e8 : fX7_setThreshold Asz Anu Aba Amo Aco Hsz Hla Hce Bsz Bla Bce Tma Tlc Ttc day (nI b) (nI x) (nI y) thr off cre rcp pay sv' nx' SL' (nI w) = some (thr, nI w, sv2, nx2, SL2) := by
    unfold fX7_setThreshold
    rw [q4, bd1_s, a2, bd2_s, kept_pos (by rw [le_i, toInt_0]; exact l4.1) q5, bd3_s]
  have j1 : ∀ {β : Type} (k : Option β), ckI 1 18 k = k := fun k => ckI_ok (i := 1) (by omega) (by omega)
  have j2 : ∀ {β : Type} (k : Option β), ckI 2 18 k = k := fun k => ckI_ok (i := 2) (by omega) (by omega)
  have j3 : ∀ {β : Type} (k : Option β), ckI 3 18 k = k := fun k => ckI_ok (i := 3) (by omega) (by omega)
  have j4 : ∀ {β : Type} (k : Option β), ckI 4 18 k = k := fun k => ckI_ok (i := 4) (by omega) (by omega)
  have z1 : (1 : Int32).toNatClampNeg = 1 := rfl
  have z2 : (2 : Int32).toNatClampNeg = 2 := rfl
  have z3 : (3 : Int32).toNatClampNeg = 3 := rfl
  have z4 : (4 : Int32).toNatClampNeg = 4 := rfl
  unfold fL_law_J1658
  rw [ex, bd1_s, ey, bd1_s, e7, bd7_s, j1, z1, s5, if_pos rfl, ew, bd1_s, e8, bd5_s, j4, z4, s5d, if_pos rfl]
  simp only [j1, j2, j3, j4, z1, z2, z3, z4, lts, bd1_s]
  have pp : pq (upd (upd (upd (upd qq 1 (nI b)) 2 (nI x)) 3 (nI y)) 4 (nI w)) = pq qq := pq_cong fun j hj => by rw [upd_n (by omega), upd_n (by omega), upd_n (by omega), upd_n (by omega)]
  have o : ∀ j, j = 0 ∨ 5 ≤ j → upd (upd (upd (upd qq 1 (nI b)) 2 (nI x)) 3 (nI y)) 4 (nI w) j = qq j := fun j hj => by rw [upd_n (by omega), upd_n (by omega), upd_n (by omega), upd_n (by omega)]
  refine fin_ok (E := E) (dn := dn) (t1 := t1) (t2 := t2) hr hn ⟨CLB_qq k1 (fun j hj => o j (by omega)), ?_, ?_, k4, ?_, ⟨k6.1, ?_⟩, k7, ?_, ?_, ⟨⟨s1, by rw [o 0 (by omega)]; exact s2, by rw [o 6 (by omega)]; exact s3, by rw [o 7 (by omega)]; exact s4⟩, ⟨?_, ?_, ?_, ?_⟩, s6, ⟨⟨?_, ?_⟩, ⟨?_, ?_⟩, ⟨?_, ?_⟩, ?_, ?_⟩, by rw [pp]; exact s11⟩⟩ (by omega) (by omega) q6 scL scx Ksz Kcl Kke z7 z10
  · unfold CTB; rw [pp]; intro k hk hpk; exact k2 k hk hpk
  · unfold CIB; rw [pp]; intro k hk hpk; exact k3 k hk hpk
  · unfold RIB; rw [pp]; exact k5
  · rw [pp]; exact k6.2
  · unfold RIB; rw [pp]; exact k8
  · obtain ⟨w1, w2, w3⟩ := k9
    exact ⟨w1, by rw [o 5 (by omega)]; exact w2, w3⟩
  · rw [upd_n (by omega), upd_n (by omega), upd_n (by omega), upd_s]
  · rw [upd_n (by omega), upd_n (by omega), upd_s]
  · rw [upd_n (by omega), upd_s]
  · rw [upd_s]
  · rw [nI_toInt (by omega)]; omega
  · rw [nI_toInt (by omega)]; omega
  · rw [nI_toInt (by omega)]; omega
  · rw [nI_toInt (by omega)]; omega
  · rw [nI_toInt (by omega)]; omega
  · rw [nI_toInt (by omega)]; omega
  · rw [nI_toInt (by omega)]; omega
  · rw [nI_toInt (by omega)]; omega
theorem case_rates (hr : HR rec n) (hn : n < 40) (h : PR n Asz Anu Aba Amo Aco Hsz Hla Hce Bsz Bla Bce Tma Tlc Ttc day lim low hig thr off cre rcp pay ee mm qq hh bb sv nx SL) (scL : Nat) (scx : Nat → Int32) (Ksz : Int32) (Kcl : Nat → Int32) (Kke : Nat → Int32) (z7 z9 z10 : Int32) :
    (bd1 (fL_low (z9 >>> (6 &&& 31)) 2) fun r_178 => if r_178 = 0 then (bd1 (fL_low z10 300000) fun r_221 => fL_law_J1658 scL scx ee mm qq hh bb Ksz Kcl Kke Asz Anu Aba Amo Aco Hsz Hla Hce Bsz Bla Bce Tma Tlc Ttc day lim low hig thr off cre rcp pay sv nx SL z7 (nI n) z9 z10 r_221 rec) else (bd1 (fL_low z10 900000000) fun r_181 => fL_law_J1658 scL scx ee mm qq hh bb Ksz Kcl Kke Asz Anu Aba Amo Aco Hsz Hla Hce Bsz Bla Bce Tma Tlc Ttc day lim low hig thr off cre rcp pay sv nx SL z7 (nI n) z9 z10 r_181 rec)) = some (.inr ()) := by
  obtain ⟨x, hx, ex⟩ := low_i (z9 >>> (6 &&& 31)) (n := 2) (by omega) (by omega)
  obtain ⟨y, hy, ey⟩ := low_i z10 (n := 300000) (by omega) (by omega)
  obtain ⟨w, hw, ew⟩ := low_i z10 (n := 900000000) (by omega) (by omega)
  have ex : fL_low (z9 >>> (6 &&& 31)) 2 = some (nI x) := ex
  have ey : fL_low z10 300000 = some (nI y) := ey
  have ew : fL_low z10 900000000 = some (nI w) := ew
  rw [ex, bd1_s, ey, ew, bd1_s, bd1_s]
  split
  · exact rates_1 hr hn h scL scx Ksz Kcl Kke z7 z9 z10 (by omega)
  · exact rates_1 hr hn h scL scx Ksz Kcl Kke z7 z9 z10 (by omega)
end CCC
