/-! the pure side, i: settlements -/
theorem RWr_set {B g : Nat} {sz la : Int32} {ce st : Nat → Int32} {ps pl b : Nat} (h : RWr B sz la ce st ps pl b) (hg : g < B) (h1 : ps < 12) (h2 : pl < 12) (h3 : 12 ≤ b) (k : Nat) (hk : k < 4) (x : Int32) : RWr B sz la (upd ce (g * 4 + k) x) (upd st (b + 4 * g + k) x) ps pl b := by
  refine ⟨⟨h.1.1, by rw [upd_n (by omega)]; exact h.1.2.1, h.1.2.2.1, by rw [upd_n (by omega)]; exact h.1.2.2.2⟩, fun j hj => ?_⟩
  by_cases e : j = g * 4 + k
  · subst e; rw [upd_s, show b + (g * 4 + k) = b + 4 * g + k by omega, upd_s]
  · rw [upd_n e, upd_n (by omega)]; exact h.2 j hj
theorem settle_tail {n C R B E dn g c : Nat} {Asz : Int32} {Anu : Nat → Int32} {Aba : Nat → Int32} {Amo : Nat → Int32} {Aco : Nat → Int64} {Hsz : Int32} {Hla : Int32} {Hce : Nat → Int32} {Bsz : Int32} {Bla : Int32} {Bce : Nat → Int32} {Tma : Int32} {Tlc : Int32} {Ttc : Nat → Int32} {day : Int32} {lim : Int32} {low : Int32} {hig : Int32} {thr : Int32} {off : Int64} {cre : Int64} {rcp : Int64} {pay : Int64} {st : Nat → Int32} {gr : Nat → Int64} (h : RSc n C R B E dn Asz Anu Aba Amo Aco Hsz Hla Hce Bsz Bla Bce Tma Tlc Ttc day lim low hig thr off cre rcp pay st gr) (hn : n + 1 < 2 ^ 31) (hg : g < B) (hlt : c < C) (hcl : Bce (g * 4 + 1) = Anu c) (a : Int32) (ha : 1 ≤ a.toInt) (haL : a.toInt ≤ (Bce (g * 4 + 2)).toInt) (haF : hsZ Hce (Anu c) R + a.toInt ≤ (Aba c).toInt) :
    ∃ Amo' Bsz' Bce' T1 T2 T3 st' gr',
    (bd1 (fX0_add Asz Aba (nI c) (-a)) fun Aba_14 =>
      lt_ (off + a.toInt64) fun off_16 =>
      if a = Bce (g * 4 + 2) then
        bd2 (fX4_remove Bsz Bce (nI g)) fun Bsz_29 Bce_30 =>
        bd4 (fX5_enter Asz Anu Amo Tma Tlc Ttc day 4 (Anu c) 0 a) fun Amo_32 Tma_33 Tlc_34 Ttc_35 =>
        some (a, Aba_14, Amo_32, Bsz_29, Bce_30, Tma_33, Tlc_34, Ttc_35, off_16)
      else
        bd1 (fX4_set Bsz Bce (nI g) 2 (Bce (g * 4 + 2) - a)) fun Bce_18 =>
        bd1 (fX4_get Bsz Bce_18 (nI g) 3) fun r_20 =>
        bd1 (fX4_set Bsz Bce_18 (nI g) 3 (r_20 + a)) fun Bce_22 =>
        bd4 (fX5_enter Asz Anu Amo Tma Tlc Ttc day 4 (Anu c) 0 a) fun Amo_24 Tma_25 Tlc_26 Ttc_27 =>
        some (a, Aba_14, Amo_24, Bsz, Bce_22, Tma_25, Tlc_26, Ttc_27, off_16)) = some (a, upd Aba c (Aba c + -a), Amo', Bsz', Bce', T1, T2, T3, off + a.toInt64) ∧
    (bd2 (fX8_adds st (nI c) (-a)) fun (r_14 : Int32) (st_15 : Nat → Int32) =>
    ckI 12 16 <|
    ckI 12 16 <|
    lt_ (vp_updL gr (12 : Int32).toNatClampNeg ((gr (12 : Int32).toNatClampNeg) + a.toInt64)) fun gr_19 =>
    ckI ((108 + (4 * nI g)) + 2) 336 <|
    ckI ((108 + (4 * nI g)) + 2) 336 <|
    lt_ (upd st_15 ((108 + (4 * nI g)) + 2).toNatClampNeg ((st_15 ((108 + (4 * nI g)) + 2).toNatClampNeg) - a)) fun st_22 =>
    ckI ((108 + (4 * nI g)) + 3) 336 <|
    ckI ((108 + (4 * nI g)) + 3) 336 <|
    lt_ (upd st_22 ((108 + (4 * nI g)) + 3).toNatClampNeg ((st_22 ((108 + (4 * nI g)) + 3).toNatClampNeg) + a)) fun st_25 =>
    bd1 (fX8_part st_25 (nI c) 0) fun r_26 =>
    bd2 (fX8_enters st_25 4 r_26 0 a) fun (r_28 : Int32) (st_29 : Nat → Int32) =>
    bd1 (fX8_billPart st_29 (nI g) 2) fun r_31 =>
    if r_31 = 0 then
      ckI 7 336 <|
      bd1 (fX8_takesOut st_29 108 (nI g) (st_29 (7 : Int32).toNatClampNeg)) fun st_35 =>
      ckI 7 336 <|
      ckI 7 336 <|
      lt_ (upd st_35 (7 : Int32).toNatClampNeg ((st_35 (7 : Int32).toNatClampNeg) - 1)) fun st_39 =>
      some (a, st_39, gr_19)
    else
      some (a, st_29, gr_19)) = some (a, st', gr') ∧ RS (n + 1) Asz Anu (upd Aba c (Aba c + -a)) Amo' Aco Hsz Hla Hce Bsz' Bla Bce' T1 T2 T3 day lim low hig thr (off + a.toInt64) cre rcp pay st' gr' := by
  obtain ⟨w1, w2, w3, w4, w5, w6, w7⟩ := whyPaid_eq h hlt
  have h0 := h
  obtain ⟨hc, hi, hr, hrn, hh, hb, hbn, hbi, ht, hv, hE, hs⟩ := h0
  obtain ⟨hz, h5, hC⟩ := hc.1
  obtain ⟨bz, b7, hB, b9⟩ := hb.1
  have hR := hr.1.2.2.1
  have hL := (hbi g hg).2
  have en : (-a).toInt = -a.toInt := neg_toInt (by omega)
  have ev : (Aba c + -a).toInt = (Aba c).toInt - a.toInt := by rw [add_toInt (by omega) (by omega)]; omega
  have eL : (Bce (g * 4 + 2) - a).toInt = (Bce (g * 4 + 2)).toInt - a.toInt := sub_toInt (by omega) (by omega)
  obtain ⟨L, eLL⟩ : ∃ L, L = Bce (g * 4 + 2) := ⟨_, rfl⟩
  obtain ⟨D, eD⟩ : ∃ D, D = Bce (g * 4 + 3) := ⟨_, rfl⟩
  have sL : st (108 + 4 * g + 2) = L := by rw [eLL, hb.2 (g * 4 + 2) (by omega), show 108 + (g * 4 + 2) = 108 + 4 * g + 2 by omega]
  have sD : st (108 + 4 * g + 3) = D := by rw [eD, hb.2 (g * 4 + 3) (by omega), show 108 + (g * 4 + 3) = 108 + 4 * g + 3 by omega]
  obtain ⟨s3, es3⟩ : ∃ s3, s3 = upd (upd (upd st (13 + 3 * c) (Aba c + -a)) (108 + 4 * g + 2) (L - a)) (108 + 4 * g + 3) (D + a) := ⟨_, rfl⟩
  obtain ⟨g1, eg1⟩ : ∃ g1, g1 = vp_updL gr 12 (gr 12 + a.toInt64) := ⟨_, rfl⟩
  have o3 : ∀ j, j < 48 → s3 j = upd st (13 + 3 * c) (Aba c + -a) j := fun j hj => by rw [es3, upd_n (by omega), upd_n (by omega)]
  have o3' : ∀ j, j < 13 ∨ 168 ≤ j → s3 j = st j := fun j hj => by rw [es3, upd_n (by omega), upd_n (by omega), upd_n (by omega)]
  have o3h : ∀ j, 48 ≤ j → j < 108 → s3 j = st j := fun j _ hj => by rw [es3, upd_n (by omega), upd_n (by omega), upd_n (by omega)]
  have c3 : CLr C Asz Anu (upd Aba c (Aba c + -a)) Amo Aco s3 g1 := by
    have q := CLr_bal hc hlt (Aba c + -a)
    exact CLr_ext q (o3 _ (by omega)) (fun j _ hj => o3 j hj) (fun j hj => by rw [eg1, updL_n (by omega)])
  have i3 : CIv C Anu (upd Aba c (Aba c + -a)) Aco dn := CIv_bal hi _ (by omega) (by omega)
  have r3 : RWr R Hsz Hla Hce s3 6 8 48 := RWr_ext hr (o3' _ (by omega)) (o3' _ (by omega)) (fun j hj => o3h _ (by omega) (by omega))
  have hh3 : HIv C Anu (upd Aba c (Aba c + -a)) R Hce day := HIv_bal hh _ (by omega)
  have b3 : RWr B Bsz Bla (upd (upd Bce (g * 4 + 2) (L - a)) (g * 4 + 3) (D + a)) s3 7 9 108 := by
    rw [es3]
    have hb1 : RWr B Bsz Bla Bce (upd st (13 + 3 * c) (Aba c + -a)) 7 9 108 := RWr_ext hb (upd_n (by omega)) (upd_n (by omega)) (fun j hj => upd_n (by omega))
    exact RWr_set (RWr_set hb1 hg (by omega) (by omega) (by omega) 2 (by omega) _) hg (by omega) (by omega) (by omega) 3 (by omega) _
  have t3 : TRr E Tma Tlc Ttc s3 := TRr_ext ht (o3' _ (by omega)) (o3' _ (by omega)) (fun j h1 _ => o3' _ (by omega))
  have hEI : EIv 4 (Anu c) 0 a 0 := ⟨by decide, Or.inl rfl, fun e => absurd e (by decide), fun e => absurd e (by decide), fun e => absurd e (by decide)⟩
  obtain ⟨A', T1, T2, T3, s4, e1, e2, e3, e4, e5, e6, e7, e8⟩ := enter_both (day := day) c3 i3 t3 hv (by omega) (by rw [o3' 0 (by omega)]; exact hs.2.1.1) hEI
  have b4 : RWr B Bsz Bla (upd (upd Bce (g * 4 + 2) (L - a)) (g * 4 + 3) (D + a)) s4 7 9 108 := RWr_ext b3 (e7 _ (by omega)) (e7 _ (by omega)) (fun j hj => e8 _ (by omega) (by omega))
  have r4 : RWr R Hsz Hla Hce s4 6 8 48 := RWr_ext r3 (e7 _ (by omega)) (e7 _ (by omega)) (fun j hj => e8 _ (by omega) (by omega))
  have s4s : SCr dn day lim low hig thr (off + a.toInt64) cre rcp pay s4 g1 := by
    have q : SCr dn day lim low hig thr off cre rcp pay s4 gr := SCr_ext hs (fun j hj => (e7 _ (by omega)).trans (o3' _ (by omega)))
    refine ⟨q.1, q.2.1, ?_, q.2.2.2⟩
    obtain ⟨z1, z2, z3, z4⟩ := q.2.2.1
    rw [eg1, updL_s, updL_n (by omega), updL_n (by omega), updL_n (by omega), z1]
    exact ⟨rfl, z2, z3, z4⟩
  have mL : s4 (108 + 4 * g + 2) = L - a := by rw [e8 _ (by omega) (by omega), es3, upd_n (by omega), upd_s]
  -- the reference, up to the entry
  have c12 : ∀ {β : Type} (k : Option β), ckI 12 16 k = k := fun k => ckI_ok (i := 12) (by omega) (by omega)
  have x4 : (108 : Int32) + 4 * nI g = nI (108 + 4 * g) := by rw [show (108 : Int32) = nI 108 from rfl, show (4 : Int32) = nI 4 from rfl, pk_mul, nI_add]
  have y2 : nI (108 + 4 * g) + 2 = nI (108 + 4 * g + 2) := nI_add _ 2
  have y3 : nI (108 + 4 * g) + 3 = nI (108 + 4 * g + 3) := nI_add _ 3
  have k2 : ∀ {β : Type} (k : Option β), ckI (nI (108 + 4 * g + 2)) 336 k = k := fun k => ckI_ok (by omega) (by omega)
  have k3 : ∀ {β : Type} (k : Option β), ckI (nI (108 + 4 * g + 3)) 336 k = k := fun k => ckI_ok (by omega) (by omega)
  have k7 : ∀ {β : Type} (k : Option β), ckI 7 336 k = k := fun k => ckI_ok (i := 7) (by omega) (by omega)
  have n2 : (nI (108 + 4 * g + 2)).toNatClampNeg = 108 + 4 * g + 2 := nI_clamp (by omega)
  have n3 : (nI (108 + 4 * g + 3)).toNatClampNeg = 108 + 4 * g + 3 := nI_clamp (by omega)
  have p0 : fX8_part s3 (nI c) 0 = some (Anu c) := by
    have e : fX8_part s3 (nI c) 0 = _ := M_part (c := c) (k := 0) (by omega) s3
    rw [e, Nat.add_zero, ← (c3.2 c hlt).1]
  have p2 : fX8_billPart s4 (nI g) 2 = some (L - a) := by
    have e : fX8_billPart s4 (nI g) 2 = _ := M_billPart (c := g) (k := 2) (by omega) s4
    rw [e, mL]
  rw [hz, X0_add hlt hC, bd1_s, lts, M_adds (by omega), bd2_s, c12, c12, lts, x4, y2, k2, k2, lts, n2, y3, k3, k3, lts, n3, show (12 : Int32).toNatClampNeg = 12 from rfl, ← eg1]
  rw [upd_n (j := 108 + 4 * g + 2) (k := 13 + 3 * c) (by omega), sL, upd_n (j := 108 + 4 * g + 3) (k := 108 + 4 * g + 2) (by omega), upd_n (j := 108 + 4 * g + 3) (k := 13 + 3 * c) (by omega), sD, ← (hc.2 c hlt).2.1, ← es3, p0, bd1_s, e2, bd2_s, p2, bd1_s, ← hz, e1]
  by_cases q : a = L
  · obtain ⟨ce', x1, x2⟩ := X4_remove hB hg Bce
    obtain ⟨s5, m1, m2, m3⟩ := M_takesOut (b := 108) (R := B) (g := g) (by omega) hg s4
    have x2' : ∀ j, j < (B - 1) * 4 → ce' j = if g * 4 ≤ j then (upd (upd Bce (g * 4 + 2) (L - a)) (g * 4 + 3) (D + a)) (j + 4) else (upd (upd Bce (g * 4 + 2) (L - a)) (g * 4 + 3) (D + a)) j := by
      intro j hj
      rw [x2 j hj]
      by_cases w : g * 4 ≤ j
      · rw [if_pos w, if_pos w, upd_n (by omega), upd_n (by omega)]
      · rw [if_neg w, if_neg w, upd_n (by omega), upd_n (by omega)]
    have z : L - a = 0 := by rw [q]; exact Int32.sub_self L
    have i7 : s4 7 = nI B := b4.1.2.1
    have o5 : ∀ j, j ≠ 7 → j < 108 ∨ 168 ≤ j → (upd s5 7 (nI (B - 1))) j = s4 j := fun j h1 h2 => by rw [upd_n h1]; exact m2 j (by omega)
    rw [← eLL, if_pos q, bz, x1, bd2_s, bd4_s, if_pos z, k7, show (7 : Int32).toNatClampNeg = 7 from rfl, i7, show (108 : Int32) = nI 108 from rfl, m1, bd1_s, k7, k7, lts, m2 7 (by omega), i7, show nI B - 1 = nI (B - 1) from nI_sub (b := 1) (by omega)]
    refine ⟨A', nI (B - 1), ce', T1, T2, T3, upd s5 7 (nI (B - 1)), g1, rfl, rfl, ⟨C, R, B - 1, E + 1, dn, CLr_ext e4 (o5 _ (by omega) (by omega)) (fun j h1 h2 => o5 _ (by omega) (by omega)) (fun _ _ => rfl), i3, RWr_ext r4 (o5 _ (by omega) (by omega)) (o5 _ (by omega) (by omega)) (fun j hj => o5 _ (by omega) (by omega)), NIv_mono hrn (by omega), hh3, RWr_remove b4 hg x2' (fun j hj => by rw [upd_n (by omega)]; exact m3 j hj) (upd_s _ _ _) (o5 _ (by omega) (by omega)), NIv_mono (NIv_remove hbn x2) (by omega), BIv_remove hbi x2, TRr_ext e5 (o5 _ (by omega) (by omega)) (o5 _ (by omega) (by omega)) (fun j h1 h2 => o5 _ (by omega) (by omega)), e6, by omega, SCr_ext s4s (fun j hj => o5 _ (by omega) (by omega))⟩⟩
  · have z : ¬ L - a = 0 := by
      intro e
      have := congrArg Int32.toInt e
      rw [eLL, eL, toInt_0] at this
      exact q (Int32.toInt_inj.mp (by rw [eLL]; omega))
    have u1 : fX4_set Bsz Bce (nI g) 2 (L - a) = some (upd Bce (g * 4 + 2) (L - a)) := by rw [bz]; exact X4_set (k := 2) hg hB (by omega) Bce _
    have u2 : fX4_get Bsz (upd Bce (g * 4 + 2) (L - a)) (nI g) 3 = some D := by
      have e : fX4_get Bsz (upd Bce (g * 4 + 2) (L - a)) (nI g) 3 = some (upd Bce (g * 4 + 2) (L - a) (g * 4 + 3)) := by rw [bz]; exact X4_get (k := 3) hg hB (by omega) _
      rw [e, upd_n (by omega), eD]
    have u3 : fX4_set Bsz (upd Bce (g * 4 + 2) (L - a)) (nI g) 3 (D + a) = some (upd (upd Bce (g * 4 + 2) (L - a)) (g * 4 + 3) (D + a)) := by rw [bz]; exact X4_set (k := 3) hg hB (by omega) _ _
    rw [← eLL, if_neg q, u1, bd1_s, u2, bd1_s, u3, bd1_s, bd4_s, if_neg z]
    have rows : ∀ i k, k < 2 → (upd (upd Bce (g * 4 + 2) (L - a)) (g * 4 + 3) (D + a)) (i * 4 + k) = Bce (i * 4 + k) := fun i k hk => by rw [upd_n (by omega), upd_n (by omega)]
    have rows0 : ∀ i, (upd (upd Bce (g * 4 + 2) (L - a)) (g * 4 + 3) (D + a)) (i * 4) = Bce (i * 4) := fun i => rows i 0 (by omega)
    have row2 : ∀ i, (upd (upd Bce (g * 4 + 2) (L - a)) (g * 4 + 3) (D + a)) (i * 4 + 2) = if i = g then L - a else Bce (i * 4 + 2) := fun i => by
      by_cases w : i = g
      · subst w; rw [if_pos rfl, upd_n (by omega), upd_s]
      · rw [if_neg w, upd_n (by omega), upd_n (by omega)]
    refine ⟨A', Bsz, _, T1, T2, T3, s4, g1, rfl, rfl, ⟨C, R, B, E + 1, dn, e4, i3, r4, NIv_mono hrn (by omega), hh3, b4, ⟨fun i hi => by rw [rows0]; exact hbn.1 i hi, fun i j h1 h2 => by rw [rows0, rows0]; exact hbn.2.1 i j h1 h2, hbn.2.2.1, by have := hbn.2.2.2; omega⟩, fun i hi => ?_, e5, e6, by omega, s4s⟩⟩
    rw [rows i 1 (by omega), row2 i]
    obtain ⟨y1, y2⟩ := hbi i hi
    refine ⟨y1, ?_⟩
    by_cases w : i = g
    · have nz : L.toInt ≠ a.toInt := fun e => q (Int32.toInt_inj.mp e.symm)
      rw [if_pos w, eLL, eL]; rw [eLL] at nz; omega
    · rw [if_neg w]; exact y2
theorem op_settle {n : Nat} {Asz : Int32} {Anu : Nat → Int32} {Aba : Nat → Int32} {Amo : Nat → Int32} {Aco : Nat → Int64} {Hsz : Int32} {Hla : Int32} {Hce : Nat → Int32} {Bsz : Int32} {Bla : Int32} {Bce : Nat → Int32} {Tma : Int32} {Tlc : Int32} {Ttc : Nat → Int32} {day : Int32} {lim : Int32} {low : Int32} {hig : Int32} {thr : Int32} {off : Int64} {cre : Int64} {rcp : Int64} {pay : Int64} {st : Nat → Int32} {gr : Nat → Int64} (h : RS n Asz Anu Aba Amo Aco Hsz Hla Hce Bsz Bla Bce Tma Tlc Ttc day lim low hig thr off cre rcp pay st gr) (hn : n + 1 < 2 ^ 31) (p1 : Int32) :
    (∃ r : Int32, r < 0 ∧ fX5_settleBill Asz Anu Aba Amo Hsz Hce Bsz Bce Tma Tlc Ttc day off p1 = some (r, Aba, Amo, Bsz, Bce, Tma, Tlc, Ttc, off) ∧ fX8_whyNotSettled st p1 = some r) ∨
    (∃ r Aba' Amo' Bsz' Bce' Tma' Tlc' Ttc' off' st' gr', 0 ≤ r ∧ fX5_settleBill Asz Anu Aba Amo Hsz Hce Bsz Bce Tma Tlc Ttc day off p1 = some (r, Aba', Amo', Bsz', Bce', Tma', Tlc', Ttc', off') ∧ fX8_whyNotSettled st p1 = some 0 ∧ fX8_settles st gr p1 = some (r, st', gr') ∧ RS (n + 1) Asz Anu Aba' Amo' Aco Hsz Hla Hce Bsz' Bla Bce' Tma' Tlc' Ttc' day lim low hig thr off' cre rcp pay st' gr') := by
  obtain ⟨C, R, B, E, dn, h⟩ := h
  have h' := h
  obtain ⟨hc, hi, hr, hrn, hh, hb, hbn, hbi, ht, hv, hE, hs⟩ := h'
  obtain ⟨hz, h5, hC⟩ := hc.1
  obtain ⟨bz, b7, hB, b9⟩ := hb.1
  unfold fX5_settleBill fX8_whyNotSettled
  rcases bill_both hb hbn p1 with ⟨g, f1, f2, f4, f5⟩ | ⟨f3, f4, f5⟩
  · rw [f4, bd1_s, if_pos (nI_nn (by omega)), f5, bd1_s, if_neg (nI_nm6 (by omega))]
    obtain ⟨⟨c, c1, c2⟩, hL⟩ := hbi g f1
    obtain ⟨w1, w2, w3, w4, w5, w6, w7⟩ := whyPaid_eq h c1
    have g1 : fX4_get Bsz Bce (nI g) 1 = some (Anu c) := by rw [bz, ← c2]; exact X4_get (k := 1) f1 hB (by omega) Bce
    have g1' : fX4_get Bsz Bce (nI g) 2 = some (Bce (g * 4 + 2)) := by rw [bz]; exact X4_get (k := 2) f1 hB (by omega) Bce
    have g2 : fX0_find Asz Anu (Anu c) = some (nI c) := by
      rw [hz]; exact X0_find_i hC c1 rfl (fun j hj e => by have := Anu_inj hi (by omega) c1 e; omega)
    have g3 : fX8_billPart st (nI g) 1 = some (Anu c) := by
      have e : fX8_billPart st (nI g) 1 = _ := M_billPart (c := g) (k := 1) (by omega) st
      rw [e, ← c2, hb.2 (g * 4 + 1) (by omega), show 108 + (g * 4 + 1) = 108 + 4 * g + 1 by omega]
    have g3' : fX8_billPart st (nI g) 2 = some (Bce (g * 4 + 2)) := by
      have e : fX8_billPart st (nI g) 2 = _ := M_billPart (c := g) (k := 2) (by omega) st
      rw [e, hb.2 (g * 4 + 2) (by omega), show 108 + (g * 4 + 2) = 108 + 4 * g + 2 by omega]
    have g4 : fX8_find st (Anu c) = some (nI c) := by
      rcases find_both hc hi (Anu c) with ⟨d, d1, d2, -, -, d5⟩ | ⟨d3, -⟩
      · rw [d5, Anu_inj hi d1 c1 d2]
      · exact absurd rfl (d3 c c1)
    rw [g1, bd1_s, g2, bd1_s, g1', bd1_s, w1, bd1_s, g3, bd1_s, g4, bd1_s, w2, bd1_s]
    obtain ⟨F, eF⟩ : ∃ F, F = Aba c - hsI Hce (Anu c) R := ⟨_, rfl⟩
    rw [← eF] at w1 w2 w3 ⊢
    obtain ⟨L, eL⟩ : ∃ L, L = Bce (g * 4 + 2) := ⟨_, rfl⟩
    rw [← eL] at g1' g3' hL ⊢
    by_cases q0 : F = 0
    · have q1 : F < L := by rw [lt_i, q0, toInt_0]; omega
      rw [if_pos q1, lts, if_pos q0, if_pos q0]
      exact Or.inl ⟨-3, by decide, rfl, rfl⟩
    · have q0' : F.toInt ≠ 0 := fun e => q0 (Int32.toInt_inj.mp (by rw [e]; rfl))
      right
      have key : ∃ a : Int32, (if F < L then F else L) = a ∧ (1 ≤ a.toInt ∧ a.toInt ≤ L.toInt ∧ a.toInt ≤ F.toInt) ∧ (F ≤ L ∧ a = F ∨ ¬ F ≤ L ∧ a = L) := by
        by_cases q1 : F < L
        · refine ⟨F, if_pos q1, ?_, Or.inl ⟨?_, rfl⟩⟩
          · rw [lt_i] at q1; omega
          · rw [lt_i] at q1; rw [le_i]; omega
        · refine ⟨L, if_neg q1, ?_, ?_⟩
          · rw [lt_i] at q1; omega
          · by_cases q2 : F ≤ L
            · refine Or.inl ⟨q2, Int32.toInt_inj.mp ?_⟩
              rw [le_i] at q2; rw [lt_i] at q1; omega
            · exact Or.inr ⟨q2, rfl⟩
      obtain ⟨a, k1, ⟨k2, k3, k4⟩, k5⟩ := key
      have na : ¬ a = 0 := fun e => by rw [e, toInt_0] at k2; omega
      obtain ⟨Amo', Bsz', Bce', T1, T2, T3, st', gr', t1, t2, t3⟩ := settle_tail h hn f1 c1 c2 a k2 (by rw [← eL]; exact k3) (by omega)
      rw [← eL] at t1
      refine ⟨a, _, Amo', Bsz', Bce', T1, T2, T3, _, st', gr', by rw [le_i, toInt_0]; omega, ?_, by rw [if_neg q0], ?_, t3⟩
      · rw [k1, lts, if_neg na]
        exact t1
      · unfold fX8_settles
        rw [f5, bd1_s, g3, bd1_s, g4, bd1_s, g3', bd1_s, w2, bd1_s]
        rcases k5 with ⟨k6, k7⟩ | ⟨k6, k7⟩
        · rw [if_pos k6, bd1_s, ← k7]
          exact t2
        · rw [if_neg k6, bd1_s, ← k7]
          exact t2
  · rw [f4, bd1_s, if_neg (by decide), f5, bd1_s, if_pos rfl]
    exact Or.inl ⟨-1, by decide, rfl, rfl⟩
