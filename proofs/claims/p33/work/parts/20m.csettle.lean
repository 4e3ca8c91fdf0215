/-! the law's acts: release and settle -/
section CSE
variable {n E dn t1 t2 : Nat} {Asz : Int32} {Anu : Nat → Int32} {Aba : Nat → Int32} {Amo : Nat → Int32} {Aco : Nat → Int64} {Hsz : Int32} {Hla : Int32} {Hce : Nat → Int32} {Bsz : Int32} {Bla : Int32} {Bce : Nat → Int32} {Tma : Int32} {Tlc : Int32} {Ttc : Nat → Int32} {day : Int32} {lim : Int32} {low : Int32} {hig : Int32} {thr : Int32} {off : Int64} {cre : Int64} {rcp : Int64} {pay : Int64} {ee : Nat → Int32} {mm : Nat → Int64} {qq : Nat → Int32} {hh : Nat → Int32} {bb : Nat → Int32} {sv : Int32} {nx : Int32} {SL : Nat → XS} {rec : (Nat → Int32) → (Nat → Int64) → (Nat → Int32) → (Nat → Int32) → (Nat → Int32) → Int32 → (Nat → Int32) → (Nat → Int32) → Int32 → (Nat → Int32) → (Nat → Int32) → (Nat → Int32) → (Nat → Int64) → Int32 → Int32 → (Nat → Int32) → Int32 → Int32 → (Nat → Int32) → Int32 → Int32 → (Nat → Int32) → Int32 → Int32 → Int32 → Int32 → Int32 → Int64 → Int64 → Int64 → Int64 → Int32 → Int32 → (Nat → XS) → Int32 → Int32 → Option (Int32 ⊕ Unit)}
theorem hz_rm {hh hh' qq : Nat → Int32} (hi : RIB hh qq) {g : Nat} (h0 : hh' (3 * g) = 0) (ho : ∀ k, k < 20 → k ≠ g → hh' (3 * k) = hh (3 * k) ∧ hh' (3 * k + 1) = hh (3 * k + 1)) {b : Nat} (hb : 1 ≤ b) (hb2 : b < 7) : hz hh' b ≤ hz hh b := by
  have e : hz hh' b = sumZ (fun k => decide (hh' (3 * k) = nI b)) (fun k => hh (3 * k + 1)) 20 := by
    refine sumZ_cong 20 (fun k hk => ⟨rfl, fun q => ?_⟩)
    by_cases w : k = g
    · subst w
      have q := of_decide_eq_true q
      rw [h0] at q
      have := congrArg Int32.toInt q
      rw [toInt_0, nI_toInt (by omega)] at this
      omega
    · exact (ho k hk w).2
  rw [e]
  refine sumZ_le 20 (fun k hk => ⟨(hi k hk).2.1.1, fun q => ?_⟩)
  have q := of_decide_eq_true q
  by_cases w : k = g
  · subst w
    rw [h0] at q
    have := congrArg Int32.toInt q
    rw [toInt_0, nI_toInt (by omega)] at this
    omega
  · rw [(ho k hk w).1] at q
    exact decide_eq_true q
theorem RIB_rm {hh hh' qq : Nat → Int32} (hi : RIB hh qq) {g : Nat} (hg : g < 20) (h0 : hh' (3 * g) = 0) (h1 : 0 ≤ (hh' (3 * g + 1)).toInt ∧ (hh' (3 * g + 1)).toInt ≤ 100000000) (ho : ∀ k, k < 20 → k ≠ g → hh' (3 * k) = hh (3 * k) ∧ hh' (3 * k + 1) = hh (3 * k + 1)) : RIB hh' qq := by
  intro k hk
  by_cases w : k = g
  · subst w
    have : pw hh' k = false := decide_eq_false (by rw [h0, toInt_0]; omega)
    rw [h0, this, toInt_0]
    exact ⟨by omega, h1, fun q => by cases q⟩
  · obtain ⟨o1, o2⟩ := ho k hk w
    have : pw hh' k = pw hh k := by unfold pw; rw [o1]
    rw [o1, o2, this]
    exact hi k hk
theorem release_x (h : PRc E dn t1 t2 Asz Anu Aba Amo Aco Hsz Hla Hce Bsz Bla Bce Tma Tlc Ttc day lim low hig thr off cre rcp pay ee mm qq hh bb) (hdn : dn ≤ 2800) {g : Nat} (hg : g < 20) (hp : pw hh g = true) {c : Nat} (hc : c < 7) (hpc : pq qq c = true) (ec : hh (3 * g) = nI c) :
    ∃ Hsz' Hce', fX5_endHold Asz Anu Aba Hsz Hce (nI (g + 1)) = some ((mm c).toInt32 - hI (upd hh (3 * g) 0) c, Hsz', Hce') ∧ 0 ≤ (mm c).toInt32 - hI (upd hh (3 * g) 0) c ∧ PRc E dn t1 t2 Asz Anu Aba Amo Aco Hsz' Hla Hce' Bsz Bla Bce Tma Tlc Ttc day lim low hig thr off cre rcp pay ee mm qq (upd hh (3 * g) 0) bb := by
  obtain ⟨k1, k2, k3, k4, k5, k6, k7, k8, k9, k10⟩ := h
  have n0 : upd hh (3 * g) 0 (3 * g) = 0 := upd_s _ _ _
  have no : ∀ k, k < 20 → k ≠ g → upd hh (3 * g) 0 (3 * k) = hh (3 * k) ∧ upd hh (3 * g) 0 (3 * k + 1) = hh (3 * k + 1) ∧ upd hh (3 * g) 0 (3 * k + 2) = hh (3 * k + 2) := fun k hk hne => by
    refine ⟨?_, ?_, ?_⟩ <;> rw [upd_n (by omega)]
  obtain ⟨sz', ce', e1, e2, e3⟩ := rw_remove k4 hg hp (hh' := upd hh (3 * g) 0) (by rw [n0, toInt_0]) no
  have r1 : RIB (upd hh (3 * g) 0) qq := RIB_rm k5 hg n0 (by rw [upd_n (by omega)]; exact (k5 g hg).2.1) (fun k hk hne => ⟨(no k hk hne).1, (no k hk hne).2.1⟩)
  have r2 : HIB dn (upd hh (3 * g) 0) mm qq := by
    refine ⟨fun k hk hpk => ?_, fun b hb hpb => ?_⟩
    · by_cases w : k = g
      · subst w; unfold pw at hpk; rw [n0] at hpk; exact absurd hpk (by decide)
      · rw [(no k hk w).2.2]
        refine k6.1 k hk ?_
        unfold pw at hpk ⊢
        rw [(no k hk w).1] at hpk
        exact hpk
    · have hnb := pq_ne k1 hb hpb
      have := hz_rm k5 n0 (fun k hk hne => ⟨(no k hk hne).1, (no k hk hne).2.1⟩) hnb.1 hb
      have := k6.2 b hb hpb
      omega
  obtain ⟨f1, f2, f3, f4, f5, f6, f7⟩ := fr_toInt k3 r1 r2 hc hpc
  refine ⟨sz', ce', ?_, by rw [le_i, f1, toInt_0]; exact f2, k1, k2, k3, e2, r1, r2, k7, k8, k9, k10⟩
  unfold fX5_endHold
  have hRg := rk_lt hp hg
  have hR15 := k4.2.1
  rw [rw_find k4 hg hp, bd1_s, if_pos (nI_nn (by omega))]
  have gt : fX4_get Hsz Hce (nI (rk (pw hh) g)) 1 = _ := rw_get k4 hg hp (q := 1) (by omega)
  rw [gt, bd1_s, (k4.2.2.2.2 g hg hp).2.2.1, ec, cl_find k1 hc hpc, bd1_s, e1, bd2_s, x_freeAt k1 e2 hc hpc, bd1_s]
theorem case_release (hr : HR rec n) (hn : n < 40) (h : PR n Asz Anu Aba Amo Aco Hsz Hla Hce Bsz Bla Bce Tma Tlc Ttc day lim low hig thr off cre rcp pay ee mm qq hh bb sv nx SL) (scL : Nat) (scx : Nat → Int32) (Ksz : Int32) (Kcl : Nat → Int32) (Kke : Nat → Int32) (z7 z10 : Int32) :
    (bd1 (fL_low z10 20) fun r_373 => ckI (3 * r_373) 60 <| lt_ (hh (3 * r_373).toNatClampNeg) fun x17_376 => ckI (3 * r_373) 60 <| lt_ (upd hh (3 * r_373).toNatClampNeg 0) fun hh_378 => bd6 (fX7_release Asz Anu Aba Amo Aco Hsz Hla Hce Bsz Bla Bce Tma Tlc Ttc day lim low hig thr off cre rcp pay sv nx SL (r_373 + 1)) fun r_379 Hsz_380 Hce_381 sv_382 nx_383 SL_384 => if x17_376 ≤ 0 then (if r_379 = (-1) then fL_law_J2283 scL scx ee mm qq hh_378 bb Ksz Kcl Kke Asz Anu Aba Amo Aco Hsz_380 Hla Hce_381 Bsz Bla Bce Tma Tlc Ttc day lim low hig thr off cre rcp pay sv_382 nx_383 SL_384 z7 (nI n) z10 rec else some (.inl 0)) else bd1 (fL_free mm qq hh_378 x17_376) fun r_388 => if r_379 = r_388 then fL_law_J2283 scL scx ee mm qq hh_378 bb Ksz Kcl Kke Asz Anu Aba Amo Aco Hsz_380 Hla Hce_381 Bsz Bla Bce Tma Tlc Ttc day lim low hig thr off cre rcp pay sv_382 nx_383 SL_384 z7 (nI n) z10 rec else some (.inl 0)) = some (.inr ()) := by
  obtain ⟨⟨E, dn, t1, t2, h, hE, hdn⟩, hs, -⟩ := h
  obtain ⟨SL', q1⟩ := prep_b Asz Anu Aba Amo Aco Hsz Hla Hce Bsz Bla Bce Tma Tlc Ttc day lim low hig thr off cre rcp pay hs SL
  obtain ⟨sv', nx', q2, q3⟩ := keep_b (sv := sv) hs
  obtain ⟨g, hg, eg⟩ := low_i z10 (n := 20) (by omega) (by omega)
  have eg : fL_low z10 20 = some (nI g) := eg
  rw [eg, bd1_s, k3i hg, lts, k3i hg, lts, c3i hg, nI_1]
  cases hp : pw hh g with
  | true =>
    obtain ⟨c, hc, hpc, ec⟩ := ((h.2.2.2.2.1 g hg).2.2 hp).2
    have hnc := pq_ne h.1 hc hpc
    obtain ⟨Hsz', Hce', x1, x2, x3⟩ := release_x h (by omega) hg hp hc hpc ec
    have e7 : fX7_release Asz Anu Aba Amo Aco Hsz Hla Hce Bsz Bla Bce Tma Tlc Ttc day lim low hig thr off cre rcp pay sv nx SL (nI (g + 1)) = some ((mm c).toInt32 - hI (upd hh (3 * g) 0) c, Hsz', Hce', sv', nx', SL') := by
      unfold fX7_release
      rw [q1, bd1_s, x1, bd3_s, kept_pos x2 q2, bd3_s]
    rw [e7, bd6_s, ec, if_neg (by rw [le_i, nI_toInt (by omega), toInt_0]; omega), l_free (mm := mm) (dn := dn) hnc.1 hc x3.2.2.2.2.2.2.2.2.2.1.2.1 (by omega) x3.2.2.2.2.2.1.1, bd1_s, if_pos rfl]
    exact fin_ok hr hn x3 (by omega) (by omega) q3 scL scx Ksz Kcl Kke z7 z10
  | false =>
    have e0 := pw_0 h.2.2.2.2.1 hg hp
    have e : fX5_endHold Asz Anu Aba Hsz Hce (nI (g + 1)) = some (-1, Hsz, Hce) := by
      unfold fX5_endHold
      rw [rw_findn h.2.2.2.1 hg hp, bd1_s, if_neg (by decide)]
    have e7 : fX7_release Asz Anu Aba Amo Aco Hsz Hla Hce Bsz Bla Bce Tma Tlc Ttc day lim low hig thr off cre rcp pay sv nx SL (nI (g + 1)) = some (-1, Hsz, Hce, sv, nx, SL') := by
      unfold fX7_release
      rw [q1, bd1_s, e, bd3_s, kept_neg (by decide), bd3_s]
    have eu : upd hh (3 * g) 0 = hh := by rw [← e0]; exact upd_same _ _
    rw [e7, bd6_s, e0, if_pos (Int32.le_refl _), if_pos rfl, eu]
    exact fin_ok hr hn h (by omega) (by omega) hs scL scx Ksz Kcl Kke z7 z10
theorem settle_x (h : PRc E dn t1 t2 Asz Anu Aba Amo Aco Hsz Hla Hce Bsz Bla Bce Tma Tlc Ttc day lim low hig thr off cre rcp pay ee mm qq hh bb) (hE : E ≤ 40000) (hdn : dn ≤ 2800) {g : Nat} (hg : g < 20) (hp : pw bb g = true) {c : Nat} (hc : c < 7) (hpc : pq qq c = true) (ec : bb (3 * g) = nI c) {t : Int32} (et : t = if bb (3 * g + 1) ≤ (mm c).toInt32 - hI hh c then bb (3 * g + 1) else (mm c).toInt32 - hI hh c) (h0 : 0 < (mm c).toInt - hz hh c) :
    ∃ Aba' Amo' Bsz' Bce' Tlc' Ttc' off' ee' mm' qq', fX5_settleBill Asz Anu Aba Amo Hsz Hce Bsz Bce Tma Tlc Ttc day off (nI (g + 1)) = some (t, Aba', Amo', Bsz', Bce', nI (E + 1), Tlc', Ttc', off') ∧ 1 ≤ t.toInt ∧ fL_enter ee (vp_updL (vp_updL mm c (mm c - t.toInt64)) 20 (mm 20 + t.toInt64)) qq 4 (nI c) 0 t = some (ee', mm', qq') ∧ PRc (E + 1) dn t1 t2 Asz Anu Aba' Amo' Aco Hsz Hla Hce Bsz' Bla Bce' (nI (E + 1)) Tlc' Ttc' day lim low hig thr off' cre rcp pay ee' mm' qq' hh (if bb (3 * g + 1) - t = 0 then put3 bb g 0 (bb (3 * g + 1) - t) (bb (3 * g + 2) + t) else put3 bb g (bb (3 * g)) (bb (3 * g + 1) - t) (bb (3 * g + 2) + t)) := by
  have hh0 := h
  obtain ⟨k1, k2, k3, k4, k5, k6, k7, k8, k9, k10⟩ := hh0
  obtain ⟨⟨s1, s2, s3, s4⟩, -, ⟨s5, s6, s7, s8⟩, -, s9⟩ := k10
  have hn := pq_ne k1 hc hpc
  have hR := rk_lt hpc hc
  have hR12 := rk7 (pq qq)
  have hb := cl_bal k1 hc hpc
  have hRg := rk_lt hp hg
  have hR15 := k7.2.1
  obtain ⟨f1, f2, f3, f4, f5, f6, f7⟩ := fr_toInt k3 k5 k6 hc hpc
  obtain ⟨b0, b1, b2⟩ := k8 g hg
  have b3 := (b2 hp).1
  obtain ⟨fr, efr⟩ : ∃ fr, fr = (mm c).toInt32 - hI hh c := ⟨_, rfl⟩
  rw [← efr] at et f1
  have ht : 1 ≤ t.toInt ∧ t.toInt ≤ 100000000 ∧ t.toInt ≤ (bb (3 * g + 1)).toInt ∧ t.toInt ≤ (mm c).toInt - hz hh c := by
    rw [et]
    by_cases w : bb (3 * g + 1) ≤ fr
    · rw [if_pos w]; rw [le_i, f1] at w; omega
    · rw [if_neg w]; rw [le_i, f1] at w; rw [f1]; omega
  obtain ⟨t_1, t_2, t_3, t_4⟩ := ht
  have na : (-t).toInt = -t.toInt := neg_toInt (by omega)
  have va : (Aba (rk (pq qq) c) + -t).toInt = (mm c).toInt - t.toInt := by rw [add_toInt (by rw [hb.2, na]; omega) (by rw [hb.2, na]; omega), hb.2, na]; omega
  have vl : (Aba (rk (pq qq) c) + -t).toInt64 = mm c - t.toInt64 := by
    refine Int64.toInt_inj.mp ?_
    rw [up64, va, sub64 (by rw [up64]; omega) (by rw [up64]; omega), up64]
  have u1 := cl_upd k1 hc hpc (Aba (rk (pq qq) c) + -t)
  rw [vl] at u1
  have u2 := CLB_ext (mm' := vp_updL (vp_updL mm c (mm c - t.toInt64)) 20 (mm 20 + t.toInt64)) u1 (fun j hj => updL_n (by omega))
  have tt : TRB E Tma Tlc Ttc (vp_updL (vp_updL mm c (mm c - t.toInt64)) 20 (mm 20 + t.toInt64)) qq ee := by
    obtain ⟨w1, w2, w3, w4⟩ := k9
    exact ⟨w1, w2, by rw [updL_n (by omega), updL_n (by omega)]; exact w3, w4⟩
  obtain ⟨Amo', Tlc', Ttc', ee', mm', qq', e1, e2, e3, e4, e5, e6, e7⟩ := enter_b (k := nI 4) (cs := 0) u2 tt (by omega) ⟨s1, s2, by omega⟩ hc hpc (by omega) (Or.inl rfl) (by decide) (a := t) (by omega) ⟨by decide, ⟨c, hn.1, hn.2, rfl⟩, fun e => absurd e (by decide), fun e => absurd e (by decide), fun e => absurd e (by decide)⟩
  have base := rest_b (off' := off + t.toInt64) (rcp' := rcp) (pay' := pay) h e3 e4 e5 e7 (fun j hj => by rw [e6 _ (by omega), updL_n (by omega), updL_n (by omega)]) (fun j hj hpj => by
    have g := k3 j hj hpj
    have g2 := k6.2 j hj hpj
    rw [e6 _ (by omega), updL_n (by omega)]
    by_cases w : j = c
    · subst w; rw [updL_s, ← vl, up64, va]; omega
    · rw [updL_n w]; omega) ⟨by rw [e6 _ (by omega), updL_s, s5], by rw [e6 _ (by omega), updL_n (by omega), updL_n (by omega)]; exact s6, by rw [e6 _ (by omega), updL_n (by omega), updL_n (by omega)]; exact s7, by rw [e6 _ (by omega), updL_n (by omega), updL_n (by omega)]; exact s8⟩ (by
    rw [e6 20 (by omega), e6 21 (by omega), e6 22 (by omega), e6 23 (by omega), updL_s, updL_n (j := 21) (by omega), updL_n (j := 21) (by omega), updL_n (j := 22) (by omega), updL_n (j := 22) (by omega), updL_n (j := 23) (by omega), updL_n (j := 23) (by omega)]
    rw [sumC_cong (u := pq qq) (b := vp_updL mm c (mm c - t.toInt64)) 7 (fun i hi => ⟨rfl, fun _ => by rw [e6 _ (by omega), updL_n (by omega)]⟩), sumC_up (a := mm) (v := -t.toInt64) hpc (by rw [updL_s]; exact Int64.sub_eq_add_neg _ _) (fun k hk => updL_n hk) 7 hc]
    exact i64_5 s9)
  -- the class up to the bill
  have frx := x_freeAt k1 k4 hc hpc
  rw [← efr] at frx
  have g1 : fX4_get Bsz Bce (nI (rk (pw bb) g)) 1 = _ := rw_get k7 hg hp (q := 1) (by omega)
  have g2 : fX4_get Bsz Bce (nI (rk (pw bb) g)) 2 = _ := rw_get k7 hg hp (q := 2) (by omega)
  have w := k7.2.2.2.2 g hg hp
  have mn : (if fr < bb (3 * g + 1) then fr else bb (3 * g + 1)) = t := by
    rw [et]
    by_cases w : bb (3 * g + 1) ≤ fr
    · rw [if_pos w, if_neg (by rw [lt_i]; rw [le_i] at w; omega)]
    · rw [if_neg w, if_pos (by rw [lt_i]; rw [le_i] at w; omega)]
  have tn : ¬ t = 0 := fun e => by rw [e, toInt_0] at t_1; omega
  have e1 : fX5_enter Asz Anu Amo Tma Tlc Ttc day 4 (nI c) 0 t = _ := e1
  have sub0 : bb (3 * g + 1) - t = 0 ↔ t = bb (3 * g + 1) := by
    have sv : (bb (3 * g + 1) - t).toInt = (bb (3 * g + 1)).toInt - t.toInt := sub_toInt (by omega) (by omega)
    refine ⟨fun e => Int32.toInt_inj.mp ?_, fun e => by rw [e]; exact Int32.sub_self _⟩
    have := congrArg Int32.toInt e
    rw [sv, toInt_0] at this
    omega
  by_cases q : t = bb (3 * g + 1)
  · obtain ⟨sz', ce', m1, m2, m3⟩ := rw_remove k7 hg hp (hh' := put3 bb g 0 (bb (3 * g + 1) - t) (bb (3 * g + 2) + t)) (by rw [put3_0, toInt_0]) (fun k _ hne => put3_o hne)
    refine ⟨upd Aba (rk (pq qq) c) (Aba (rk (pq qq) c) + -t), Amo', sz', ce', Tlc', Ttc', off + t.toInt64, ee', mm', qq', ?_, t_1, e2, ?_⟩
    · unfold fX5_settleBill
      rw [rw_find k7 hg hp, bd1_s, if_pos (nI_nn (by omega)), g1, bd1_s, w.2.2.1, ec, cl_find k1 hc hpc, bd1_s, g2, bd1_s, w.2.2.2.1, frx, bd1_s, lts, mn, if_neg tn, k1.1, X0_add hR (rk7 _), bd1_s, lts, if_pos q, m1, bd2_s, ← k1.1, e1, bd4_s]
    · rw [if_pos (sub0.mpr q)]
      obtain ⟨p1, p2, p3, p4, p5, p6, p7, p8, p9, p10⟩ := base
      refine ⟨p1, p2, p3, p4, p5, p6, m2, ?_, p9, p10⟩
      refine RIB_rm p8 hg put3_0 ?_ (fun k hk hne => ⟨(put3_o hne).1, (put3_o hne).2.1⟩)
      rw [put3_1, sub0.mpr q, toInt_0]
      omega
  · have sv : (bb (3 * g + 1) - t).toInt = (bb (3 * g + 1)).toInt - t.toInt := sub_toInt (by omega) (by omega)
    have qi : t.toInt ≠ (bb (3 * g + 1)).toInt := fun z => q (Int32.toInt_inj.mp z)
    refine ⟨upd Aba (rk (pq qq) c) (Aba (rk (pq qq) c) + -t), Amo', Bsz, upd (upd Bce (rk (pw bb) g * 4 + 2) (bb (3 * g + 1) - t)) (rk (pw bb) g * 4 + 3) (bb (3 * g + 2) + t), Tlc', Ttc', off + t.toInt64, ee', mm', qq', ?_, t_1, e2, ?_⟩
    rotate_left
    · rw [if_neg (fun e => q (sub0.mp e))]
      obtain ⟨p1, p2, p3, p4, p5, p6, p7, p8, p9, p10⟩ := base
      refine ⟨p1, p2, p3, p4, p5, p6, rw_set2 k7 hg hp (bb (3 * g + 1) - t) (bb (3 * g + 2) + t) put3_0 put3_1 put3_2 (fun k _ hne => put3_o hne), ?_, p9, p10⟩
      intro k hk
      have o := p8 k hk
      by_cases e : k = g
      · subst e
        have : pw (put3 bb k (bb (3 * k)) (bb (3 * k + 1) - t) (bb (3 * k + 2) + t)) k = pw bb k := by unfold pw; rw [put3_0]
        rw [put3_0, put3_1, this, sv]
        exact ⟨o.1, by omega, fun z => ⟨by omega, (o.2.2 z).2⟩⟩
      · obtain ⟨o1, o2, o3⟩ := put3_o (hh := bb) (x := bb (3 * g)) (y := bb (3 * g + 1) - t) (z := bb (3 * g + 2) + t) e
        have : pw (put3 bb g (bb (3 * g)) (bb (3 * g + 1) - t) (bb (3 * g + 2) + t)) k = pw bb k := by unfold pw; rw [o1]
        rw [o1, o2, this]
        exact o
    · unfold fX5_settleBill
      have s1' : ∀ v, fX4_set Bsz Bce (nI (rk (pw bb) g)) 2 v = some (upd Bce (rk (pw bb) g * 4 + 2) v) := fun v => by
        rw [k7.1]; exact X4_set (k := 2) hRg k7.2.1 (by omega) Bce v
      have s2' : ∀ (ce : Nat → Int32) v, fX4_set Bsz ce (nI (rk (pw bb) g)) 3 v = some (upd ce (rk (pw bb) g * 4 + 3) v) := fun ce v => by
        rw [k7.1]; exact X4_set (k := 3) hRg k7.2.1 (by omega) ce v
      have g3 : ∀ (ce : Nat → Int32), fX4_get Bsz ce (nI (rk (pw bb) g)) 3 = some (ce (rk (pw bb) g * 4 + 3)) := fun ce => by
        rw [k7.1]; exact X4_get (k := 3) hRg k7.2.1 (by omega) ce
      rw [rw_find k7 hg hp, bd1_s, if_pos (nI_nn (by omega)), g1, bd1_s, w.2.2.1, ec, cl_find k1 hc hpc, bd1_s, g2, bd1_s, w.2.2.2.1, frx, bd1_s, lts, mn, if_neg tn, k1.1, X0_add hR (rk7 _), bd1_s, lts, if_neg q, s1', bd1_s, g3, bd1_s, upd_n (by omega), w.2.2.2.2, s2', bd1_s, ← k1.1, e1, bd4_s]
theorem case_settle_1 (hr : HR rec n) (hn : n < 40) (h : PR n Asz Anu Aba Amo Aco Hsz Hla Hce Bsz Bla Bce Tma Tlc Ttc day lim low hig thr off cre rcp pay ee mm qq hh bb sv nx SL) (scL : Nat) (scx : Nat → Int32) (Ksz : Int32) (Kcl : Nat → Int32) (Kke : Nat → Int32) (z7 z10 : Int32) {g : Nat} (hg : g < 20) : fL_law_J1186 scL scx ee mm qq hh bb Ksz Kcl Kke Asz Anu Aba Amo Aco Hsz Hla Hce Bsz Bla Bce Tma Tlc Ttc day lim low hig thr off cre rcp pay sv nx SL z7 (nI n) z10 (nI g) rec = some (.inr ()) := by
  obtain ⟨⟨E, dn, t1, t2, h, hE, hdn⟩, hs, -⟩ := h
  obtain ⟨SL', q1⟩ := prep_b Asz Anu Aba Amo Aco Hsz Hla Hce Bsz Bla Bce Tma Tlc Ttc day lim low hig thr off cre rcp pay hs SL
  obtain ⟨sv', nx', q2, q3⟩ := keep_b (sv := sv) hs
  unfold fL_law_J1186
  rw [k3i hg, lts, c3i hg]
  cases hp : pw bb g with
  | false =>
    have e0 := pw_0 h.2.2.2.2.2.2.2.1 hg hp
    have e : fX5_settleBill Asz Anu Aba Amo Hsz Hce Bsz Bce Tma Tlc Ttc day off (nI (g + 1)) = some (-1, Aba, Amo, Bsz, Bce, Tma, Tlc, Ttc, off) := by
      unfold fX5_settleBill
      rw [rw_findn h.2.2.2.2.2.2.1 hg hp, bd1_s, if_neg (by decide)]
    have e7 : fX7_settle Asz Anu Aba Amo Aco Hsz Hla Hce Bsz Bla Bce Tma Tlc Ttc day lim low hig thr off cre rcp pay sv nx SL (nI (g + 1)) = some (-1, Aba, Amo, Bsz, Bce, Tma, Tlc, Ttc, off, sv, nx, SL') := by
      unfold fX7_settle
      rw [q1, bd1_s, e, bd9_s, kept_neg (by decide), bd3_s]
    have fin : ∀ t : Int32, fL_law_J1245 scL scx ee mm qq hh bb Ksz Kcl Kke Asz Anu Aba Amo Aco Hsz Hla Hce Bsz Bla Bce Tma Tlc Ttc day lim low hig thr off cre rcp pay sv nx SL z7 (nI n) z10 (nI g) 0 0 t rec = some (.inr ()) := fun t => by
      unfold fL_law_J1245
      rw [nI_1, e7, bd12_s, if_pos rfl]
      unfold fL_law_J1276
      rw [if_pos rfl, if_pos (Int32.le_refl _)]
      exact fin_ok hr hn h (by omega) (by omega) hs scL scx Ksz Kcl Kke z7 z10
    rw [e0, if_pos (Int32.le_refl _)]
    unfold fL_law_J1215
    rw [k3i1 hg, k3i1 hg, c3i1 hg]
    split
    · exact fin _
    · exact fin _
  | true =>
    obtain ⟨c, hc, hpc, ec⟩ := ((h.2.2.2.2.2.2.2.1 g hg).2.2 hp).2
    have hnc := pq_ne h.1 hc hpc
    obtain ⟨f1, f2, f3, f4, f5, f6, f7⟩ := fr_toInt h.2.2.1 h.2.2.2.2.1 h.2.2.2.2.2.1 hc hpc
    have cp : ¬ nI c ≤ 0 := by rw [le_i, nI_toInt (by omega), toInt_0]; omega
    have cn : ¬ nI c = 0 := fun e => cp (by rw [e]; exact Int32.le_refl _)
    rw [ec, if_neg cp, l_free (mm := mm) (dn := dn) hnc.1 hc h.2.2.2.2.2.2.2.2.2.1.2.1 (by omega) h.2.2.2.2.2.1.1, bd1_s]
    unfold fL_law_J1215
    rw [k3i1 hg, k3i1 hg, c3i1 hg]
    have key : fL_law_J1245 scL scx ee mm qq hh bb Ksz Kcl Kke Asz Anu Aba Amo Aco Hsz Hla Hce Bsz Bla Bce Tma Tlc Ttc day lim low hig thr off cre rcp pay sv nx SL z7 (nI n) z10 (nI g) (nI c) ((mm c).toInt32 - hI hh c) (if bb (3 * g + 1) ≤ (mm c).toInt32 - hI hh c then bb (3 * g + 1) else (mm c).toInt32 - hI hh c) rec = some (.inr ()) := by
      obtain ⟨t, et⟩ : ∃ t, t = if bb (3 * g + 1) ≤ (mm c).toInt32 - hI hh c then bb (3 * g + 1) else (mm c).toInt32 - hI hh c := ⟨_, rfl⟩
      rw [← et]
      by_cases z : 0 < (mm c).toInt - hz hh c
      · obtain ⟨Aba', Amo', Bsz', Bce', Tlc', Ttc', off', ee', mm', qq', x1, x2, x3, x4⟩ := settle_x h (by omega) (by omega) hg hp hc hpc ec et z
        have e7 : fX7_settle Asz Anu Aba Amo Aco Hsz Hla Hce Bsz Bla Bce Tma Tlc Ttc day lim low hig thr off cre rcp pay sv nx SL (nI (g + 1)) = some (t, Aba', Amo', Bsz', Bce', nI (E + 1), Tlc', Ttc', off', sv', nx', SL') := by
          unfold fX7_settle
          rw [q1, bd1_s, x1, bd9_s, kept_pos (by rw [le_i, toInt_0]; omega) q2, bd3_s]
        unfold fL_law_J1245
        have fp : ¬ (mm c).toInt32 - hI hh c ≤ 0 := by rw [le_i, f1, toInt_0]; omega
        rw [nI_1, e7, bd12_s, if_neg cn, if_neg (fun e => fp (by rw [e]; exact Int32.le_refl _))]
        unfold fL_law_J1276
        have cc : (nI c).toNatClampNeg = c := nI_clamp (by omega)
        have kk : ∀ {β : Type} (k : Option β), ckI (nI c) 25 k = k := fun k => kc25 (by omega) k
        have k20 : ∀ {β : Type} (k : Option β), ckI 20 25 k = k := fun k => kc25 (c := 20) (by omega) k
        have z20 : (20 : Int32).toNatClampNeg = 20 := rfl
        have u20 : ∀ x, vp_updL mm c x 20 = mm 20 := fun x => updL_n (by omega)
        have ub : ∀ x, upd bb (3 * g + 1) x (3 * g + 2) = bb (3 * g + 2) := fun x => upd_n (by omega)
        have uc : ∀ x y, upd (upd bb (3 * g + 1) x) (3 * g + 2) y (3 * g + 1) = x := fun x y => by rw [upd_n (by omega), upd_s]
        rw [if_pos rfl, if_neg cp, if_neg fp]
        simp only [kk, k20, cc, z20, u20, k3i hg, k3i1 hg, k3i2 hg, c3i hg, c3i1 hg, c3i2 hg, lts, ub, uc]
        have p1 : upd (upd (upd bb (3 * g + 1) (bb (3 * g + 1) - t)) (3 * g + 2) (bb (3 * g + 2) + t)) (3 * g) 0 = put3 bb g 0 (bb (3 * g + 1) - t) (bb (3 * g + 2) + t) := by
          funext j
          unfold put3 upd
          by_cases a : j = 3 * g
          · subst a; simp
          · simp [a]
        have p2 : upd (upd bb (3 * g + 1) (bb (3 * g + 1) - t)) (3 * g + 2) (bb (3 * g + 2) + t) = put3 bb g (bb (3 * g)) (bb (3 * g + 1) - t) (bb (3 * g + 2) + t) := by
          unfold put3
          rw [upd_same]
        rw [p1, p2]
        by_cases w : bb (3 * g + 1) - t = 0
        · rw [if_pos w]
          rw [if_pos w] at x4
          unfold fL_law_J1359
          rw [x3, bd3_s]
          exact fin_ok hr hn x4 (by omega) (by omega) q3 scL scx Ksz Kcl Kke z7 z10
        · rw [if_neg w]
          rw [if_neg w] at x4
          unfold fL_law_J1359
          rw [x3, bd3_s]
          exact fin_ok hr hn x4 (by omega) (by omega) q3 scL scx Ksz Kcl Kke z7 z10
      · have fz : (mm c).toInt32 - hI hh c = 0 := Int32.toInt_inj.mp (by rw [f1, toInt_0]; omega)
        have hRg := rk_lt hp hg
        have hR15 := h.2.2.2.2.2.2.1.2.1
        have w := h.2.2.2.2.2.2.1.2.2.2.2 g hg hp
        have b3 := ((h.2.2.2.2.2.2.2.1 g hg).2.2 hp).1
        have g1 : fX4_get Bsz Bce (nI (rk (pw bb) g)) 1 = _ := rw_get h.2.2.2.2.2.2.1 hg hp (q := 1) (by omega)
        have g2 : fX4_get Bsz Bce (nI (rk (pw bb) g)) 2 = _ := rw_get h.2.2.2.2.2.2.1 hg hp (q := 2) (by omega)
        have m0 : (if (0 : Int32) < bb (3 * g + 1) then 0 else bb (3 * g + 1)) = 0 := if_pos (by rw [lt_i, toInt_0]; omega)
        have e : fX5_settleBill Asz Anu Aba Amo Hsz Hce Bsz Bce Tma Tlc Ttc day off (nI (g + 1)) = some (-3, Aba, Amo, Bsz, Bce, Tma, Tlc, Ttc, off) := by
          unfold fX5_settleBill
          rw [rw_find h.2.2.2.2.2.2.1 hg hp, bd1_s, if_pos (nI_nn (by omega)), g1, bd1_s, w.2.2.1, ec, cl_find h.1 hc hpc, bd1_s, g2, bd1_s, w.2.2.2.1, x_freeAt h.1 h.2.2.2.1 hc hpc, bd1_s, lts, fz, m0, if_pos rfl]
        have e7 : fX7_settle Asz Anu Aba Amo Aco Hsz Hla Hce Bsz Bla Bce Tma Tlc Ttc day lim low hig thr off cre rcp pay sv nx SL (nI (g + 1)) = some (-3, Aba, Amo, Bsz, Bce, Tma, Tlc, Ttc, off, sv, nx, SL') := by
          unfold fX7_settle
          rw [q1, bd1_s, e, bd9_s, kept_neg (by decide), bd3_s]
        unfold fL_law_J1245
        rw [nI_1, e7, bd12_s, if_neg cn, fz, if_pos rfl]
        unfold fL_law_J1276
        rw [if_pos rfl, if_neg cp, if_pos (Int32.le_refl _)]
        exact fin_ok hr hn h (by omega) (by omega) hs scL scx Ksz Kcl Kke z7 z10
    by_cases w : bb (3 * g + 1) ≤ (mm c).toInt32 - hI hh c
    · rw [if_pos w] at key ⊢
      exact key
    · rw [if_neg w] at key ⊢
      exact key
theorem case_settle (hr : HR rec n) (hn : n < 40) (h : PR n Asz Anu Aba Amo Aco Hsz Hla Hce Bsz Bla Bce Tma Tlc Ttc day lim low hig thr off cre rcp pay ee mm qq hh bb sv nx SL) (scL : Nat) (scx : Nat → Int32) (Ksz : Int32) (Kcl : Nat → Int32) (Kke : Nat → Int32) (z7 z10 : Int32) :
    (ckI 7 18 <| if (qq (7 : Int32).toNatClampNeg) = 0 then fL_law_J1186 scL scx ee mm qq hh bb Ksz Kcl Kke Asz Anu Aba Amo Aco Hsz Hla Hce Bsz Bla Bce Tma Tlc Ttc day lim low hig thr off cre rcp pay sv nx SL z7 (nI n) z10 0 rec else ckI 7 18 <| bd1 (fL_low z10 (qq (7 : Int32).toNatClampNeg)) fun r_291 => fL_law_J1186 scL scx ee mm qq hh bb Ksz Kcl Kke Asz Anu Aba Amo Aco Hsz Hla Hce Bsz Bla Bce Tma Tlc Ttc day lim low hig thr off cre rcp pay sv nx SL z7 (nI n) z10 r_291 rec) = some (.inr ()) := by
  have hpr := h
  obtain ⟨⟨E, dn, t1, t2, h, hE, hdn⟩, hs, -⟩ := h
  have k7 : ∀ {β : Type} (k : Option β), ckI 7 18 k = k := fun k => ckI_ok (i := 7) (by omega) (by omega)
  have z7' : (7 : Int32).toNatClampNeg = 7 := rfl
  have e7q := h.2.2.2.2.2.2.2.2.2.1.2.2.2
  have ht20 := h.2.2.2.2.2.2.1.2.2.2.1
  rw [k7, k7, z7', e7q]
  by_cases z : t2 = 0
  · rw [if_pos (by rw [z]; rfl)]
    exact case_settle_1 hr hn hpr scL scx Ksz Kcl Kke z7 z10 (g := 0) (by omega)
  · rw [if_neg (show ¬ nI t2 = 0 from fun e => z (nI_inj (b := 0) (by omega) (by omega) e))]
    obtain ⟨g, hg, eg⟩ := low_i z10 (n := t2) (by omega) (by omega)
    rw [eg, bd1_s]
    exact case_settle_1 hr hn hpr scL scx Ksz Kcl Kke z7 z10 (by omega)
end CSE
