/-! the law's acts: reverse -/
section CRV
variable {n : Nat} {Asz : Int32} {Anu : Nat → Int32} {Aba : Nat → Int32} {Amo : Nat → Int32} {Aco : Nat → Int64} {Hsz : Int32} {Hla : Int32} {Hce : Nat → Int32} {Bsz : Int32} {Bla : Int32} {Bce : Nat → Int32} {Tma : Int32} {Tlc : Int32} {Ttc : Nat → Int32} {day : Int32} {lim : Int32} {low : Int32} {hig : Int32} {thr : Int32} {off : Int64} {cre : Int64} {rcp : Int64} {pay : Int64} {ee : Nat → Int32} {mm : Nat → Int64} {qq : Nat → Int32} {hh : Nat → Int32} {bb : Nat → Int32} {sv : Int32} {nx : Int32} {SL : Nat → XS} {rec : (Nat → Int32) → (Nat → Int64) → (Nat → Int32) → (Nat → Int32) → (Nat → Int32) → Int32 → (Nat → Int32) → (Nat → Int32) → Int32 → (Nat → Int32) → (Nat → Int32) → (Nat → Int32) → (Nat → Int64) → Int32 → Int32 → (Nat → Int32) → Int32 → Int32 → (Nat → Int32) → Int32 → Int32 → (Nat → Int32) → Int32 → Int32 → Int32 → Int32 → Int32 → Int64 → Int64 → Int64 → Int64 → Int32 → Int32 → (Nat → XS) → Int32 → Int32 → Option (Int32 ⊕ Unit)}
theorem case_reverse (hr : HR rec n) (hn : n < 40) (h : PR n Asz Anu Aba Amo Aco Hsz Hla Hce Bsz Bla Bce Tma Tlc Ttc day lim low hig thr off cre rcp pay ee mm qq hh bb sv nx SL) (scL : Nat) (scx : Nat → Int32) (Ksz : Int32) (Kcl : Nat → Int32) (Kke : Nat → Int32) (z7 z10 : Int32) :
    (ckI 5 18 <| if (qq (5 : Int32).toNatClampNeg) = 0 then rec ee mm qq hh bb Ksz Kcl Kke Asz Anu Aba Amo Aco Hsz Hla Hce Bsz Bla Bce Tma Tlc Ttc day lim low hig thr off cre rcp pay sv nx SL z7 (nI n + 1) else ckI 5 18 <| if z7 = (qq (5 : Int32).toNatClampNeg) then rec ee mm qq hh bb Ksz Kcl Kke Asz Anu Aba Amo Aco Hsz Hla Hce Bsz Bla Bce Tma Tlc Ttc day lim low hig thr off cre rcp pay sv nx SL z7 (nI n + 1) else ckI 5 18 <| lt_ (6 * ((qq (5 : Int32).toNatClampNeg) - (qq (5 : Int32).toNatClampNeg) / 10 * 10)) fun x16_87 => ckI (x16_87 + 1) 60 <| if (ee (x16_87 + 1).toNatClampNeg) = 1 then (ckI (x16_87 + 2) 60 <| fL_law_J1843 scL scx ee mm qq hh bb Ksz Kcl Kke Asz Anu Aba Amo Aco Hsz Hla Hce Bsz Bla Bce Tma Tlc Ttc day lim low hig thr off cre rcp pay sv nx SL z7 (nI n) z10 x16_87 (ee (x16_87 + 2).toNatClampNeg) rec) else ckI (x16_87 + 1) 60 <| if (ee (x16_87 + 1).toNatClampNeg) = 3 then (ckI (x16_87 + 3) 60 <| fL_law_J1843 scL scx ee mm qq hh bb Ksz Kcl Kke Asz Anu Aba Amo Aco Hsz Hla Hce Bsz Bla Bce Tma Tlc Ttc day lim low hig thr off cre rcp pay sv nx SL z7 (nI n) z10 x16_87 (ee (x16_87 + 3).toNatClampNeg) rec) else fL_law_J1843 scL scx ee mm qq hh bb Ksz Kcl Kke Asz Anu Aba Amo Aco Hsz Hla Hce Bsz Bla Bce Tma Tlc Ttc day lim low hig thr off cre rcp pay sv nx SL z7 (nI n) z10 x16_87 0 rec) = some (.inr ()) := by
  have hpr := h
  obtain ⟨⟨E, dn, t1, t2, h, hE, hdn⟩, hs, -⟩ := h
  have k5 : ∀ {β : Type} (k : Option β), ckI 5 18 k = k := fun k => ckI_ok (i := 5) (by omega) (by omega)
  have z5 : (5 : Int32).toNatClampNeg = 5 := rfl
  have e5 := h.2.2.2.2.2.2.2.2.1.2.1
  rw [k5, k5, k5, z5, e5]
  by_cases e0 : E = 0
  · rw [if_pos (by rw [e0]; rfl)]
    exact skip_ok hr hn hpr Ksz Kcl Kke z7
  rw [if_neg (show ¬ nI E = 0 from fun e => e0 (nI_inj (b := 0) (by omega) (by omega) e))]
  by_cases ez : z7 = nI E
  · rw [if_pos ez]
    exact skip_ok hr hn hpr Ksz Kcl Kke z7
  rw [if_neg ez, lts]
  have h1 : 1 ≤ E := by omega
  have hm : E % 10 < 10 := Nat.mod_lt _ (by omega)
  have e6 : (6 : Int32) * (nI E - nI E / 10 * 10) = nI (6 * (E % 10)) := by rw [rem10 (by omega)]; exact pk_mul 6 _
  rw [e6]
  simp only [kb1 hm, kb2 hm, kb3 hm, cb1 hm, cb2 hm, cb3 hm]
  obtain ⟨⟨K1, K2⟩, ⟨c, hc1, hc2, ec⟩, ha, hs2, hs3⟩ := (h.2.2.2.2.2.2.2.2.1.2.2.2.2.2 h1).2
  have lx := last_x h (by omega) h1
  have g1 : fX6_get Tma Ttc (nI E) 1 = _ := lx.2.1 1 (by omega)
  have g2 : fX6_get Tma Ttc (nI E) 2 = _ := lx.2.1 2 (by omega)
  have g3 : fX6_get Tma Ttc (nI E) 3 = _ := lx.2.1 3 (by omega)
  have g4 : fX6_get Tma Ttc (nI E) 4 = _ := lx.2.1 4 (by omega)
  have c7 : c < 7 := by omega
  have cn : ¬ nI c = 0 := fun e => by have := nI_inj (b := 0) (by omega) (by omega) e; omega
  have cp : ¬ nI c ≤ 0 := by rw [le_i, nI_toInt (by omega), toInt_0]; omega
  have t3 : (3 : Int32).toInt = 3 := rfl
  have t4 : (4 : Int32).toInt = 4 := rfl
  have t2' : (2 : Int32).toInt = 2 := rfl
  obtain ⟨a, ea⟩ : ∃ a, ee (6 * (E % 10) + 4) = a := ⟨_, rfl⟩
  rw [ea] at ha g4
  rw [ec] at g2
  have e9 : (1000000000 : Int64).toInt = 1000000000 := rfl
  have hR12 := rk7 (pq qq)
  by_cases q1 : ee (6 * (E % 10) + 1) = 1
  · -- a receipt
    have s0 := hs2 (by rw [q1, toInt_1]; omega)
    have ha := ha (by rw [q1, toInt_1]; omega)
    rw [q1] at g1
    rw [s0] at g3
    rw [if_pos q1, ec]
    unfold fL_law_J1843
    rw [kb1 hm, cb1 hm, if_pos q1]
    unfold fL_law_J1867
    rw [kb1 hm, cb1 hm, q1, if_neg (by decide), if_neg cn, k18 (by omega), c18 (by omega)]
    cases hp : pq qq c with
    | false =>
      have w : ¬ (0 : Int) ≤ (qq (10 + c)).toInt := of_decide_eq_false hp
      rw [if_pos (by rw [lt_i, toInt_0]; omega)]
      refine rev_no hr hn h hs hE hdn scL scx Ksz Kcl Kke z7 z10 (f := c) (t := 0) (by omega) hm ?_
      unfold fX5_reverseEntry
      rw [lx.1, bd1_s, if_neg (by decide), g1, bd1_s, if_neg (by decide), lx.2.2, bd1_s, if_pos rfl, g2, bd1_s, g3, bd1_s, cl_findn h.1 c7 hp, bd1_s, show fX0_find Asz Anu 0 = some (-1) from cl_findn h.1 (c := 0) (by omega) h.1.2.1, bd1_s, if_pos (by decide)]
      rfl
    | true =>
      have w : (0 : Int) ≤ (qq (10 + c)).toInt := of_decide_eq_true hp
      have hRk := rk_lt hp c7
      obtain ⟨f1, f2, f3, f4, f5, f6, f7⟩ := fr_toInt h.2.2.1 h.2.2.2.2.1 h.2.2.2.2.2.1 c7 hp
      rw [if_neg (by rw [lt_i, toInt_0]; omega), l_free (mm := mm) (dn := dn) hc1 c7 h.2.2.2.2.2.2.2.2.2.1.2.1 (by omega) h.2.2.2.2.2.1.1, bd1_s, kb4 hm, cb4 hm, ea]
      by_cases can : a.toInt ≤ (mm c).toInt - hz hh c
      · rw [if_neg (by rw [lt_i, f1]; omega)]
        unfold fL_law_J1914
        rw [if_pos rfl]
        unfold fL_law_J1934
        rw [if_pos rfl]
        obtain ⟨Aba', Amo', Tlc', Ttc', ee', mm', qq', x1, x2, x3, x4, x5⟩ := rev1_x h (by omega) (by omega) h1 ⟨hc1, hc2⟩ hp ha can q1 ec s0 ea
        have m1 : vp_updL mm c (mm c - a.toInt64) = (if nI c ≤ 0 then mm else vp_updL mm c (mm c - a.toInt64)) := by rw [if_neg cp]
        refine rev_yes hr hn h hs hE hdn h1 scL scx Ksz Kcl Kke z7 z10 (f := c) (t := 0) (s := 0) x1 q1 (by decide) ec s0 ea m1 (by omega) (by omega) (m2 := rfl) ?_ x4 x3 x5
        rw [if_pos (show nI 0 ≤ 0 from Int32.le_refl _), if_pos rfl, if_neg (by decide), updL_n (j := 23) (by omega), updL_n (j := 22) (by omega), updL_n (j := 23) (by omega)]
        exact x2
      · rw [if_pos (by rw [lt_i, f1]; omega)]
        refine rev_no hr hn h hs hE hdn scL scx Ksz Kcl Kke z7 z10 (f := c) (t := 0) (by omega) hm ?_
        unfold fX5_reverseEntry
        rw [lx.1, bd1_s, if_neg (by decide), g1, bd1_s, if_neg (by decide), lx.2.2, bd1_s, if_pos rfl, g2, bd1_s, g3, bd1_s, cl_find h.1 c7 hp, bd1_s, show fX0_find Asz Anu 0 = some (-1) from cl_findn h.1 (c := 0) (by omega) h.1.2.1, bd1_s, if_neg (nI_nl (by omega)), if_neg (by decide)]
        unfold fX5_reverseEntry_J104
        rw [if_pos rfl]
        unfold fX5_reverseEntry_J116
        rw [if_pos rfl]
        unfold fX5_reverseEntry_J129
        rw [g4, bd1_s, if_neg (nI_nl (by omega)), x_freeAt h.1 h.2.2.2.1 c7 hp, bd1_s, if_neg (by rw [le_i, f1]; exact can)]
  rw [if_neg q1]
  by_cases q3 : ee (6 * (E % 10) + 1) = 3
  · -- a transfer
    obtain ⟨d, hd1, hd2, ed, hdc⟩ := hs3 (by rw [q3]; rfl)
    have hcd : c ≠ d := fun e => hdc (by rw [ed, ec, e])
    have d7 : d < 7 := by omega
    have dnz : ¬ nI d = 0 := fun e => by have := nI_inj (b := 0) (by omega) (by omega) e; omega
    have dp : ¬ nI d ≤ 0 := by rw [le_i, nI_toInt (by omega), toInt_0]; omega
    have ha := ha (by rw [q3]; decide)
    rw [q3] at g1
    rw [ed] at g3
    rw [if_pos q3, ed]
    unfold fL_law_J1843
    rw [kb1 hm, cb1 hm, if_neg q1, kb2 hm, cb2 hm, ec]
    unfold fL_law_J1867
    rw [kb1 hm, cb1 hm, q3, if_neg (by decide), if_neg dnz, k18 (by omega), c18 (by omega)]
    cases hpd : pq qq d with
    | false =>
      have w : ¬ (0 : Int) ≤ (qq (10 + d)).toInt := of_decide_eq_false hpd
      rw [if_pos (by rw [lt_i, toInt_0]; omega)]
      refine rev_no hr hn h hs hE hdn scL scx Ksz Kcl Kke z7 z10 (f := d) (t := c) (by omega) hm ?_
      unfold fX5_reverseEntry
      rw [lx.1, bd1_s, if_neg (by decide), g1, bd1_s, if_neg (by decide), lx.2.2, bd1_s, if_pos rfl, g2, bd1_s, g3, bd1_s]
      cases hp : pq qq c with
      | false =>
        rw [cl_findn h.1 c7 hp, bd1_s, cl_findn h.1 d7 hpd, bd1_s, if_pos (by decide)]
        rfl
      | true =>
        have hRk := rk_lt hp c7
        rw [cl_find h.1 c7 hp, bd1_s, cl_findn h.1 d7 hpd, bd1_s, if_neg (nI_nl (by omega)), if_pos rfl, if_neg (by decide)]
        rfl
    | true =>
      have w : (0 : Int) ≤ (qq (10 + d)).toInt := of_decide_eq_true hpd
      have hRd := rk_lt hpd d7
      obtain ⟨f1, f2, f3, f4, f5, f6, f7⟩ := fr_toInt h.2.2.1 h.2.2.2.2.1 h.2.2.2.2.2.1 d7 hpd
      rw [if_neg (by rw [lt_i, toInt_0]; omega), l_free (mm := mm) (dn := dn) hd1 d7 h.2.2.2.2.2.2.2.2.2.1.2.1 (by omega) h.2.2.2.2.2.1.1, bd1_s, kb4 hm, cb4 hm, ea]
      cases hp : pq qq c with
      | false =>
        have w : ¬ (0 : Int) ≤ (qq (10 + c)).toInt := of_decide_eq_false hp
        have no : fX5_reverseEntry Asz Anu Aba Amo Hsz Hce Tma Tlc Ttc day rcp pay (nI E) = some (-3, Aba, Amo, Tma, Tlc, Ttc, rcp, pay) := by
          unfold fX5_reverseEntry
          rw [lx.1, bd1_s, if_neg (by decide), g1, bd1_s, if_neg (by decide), lx.2.2, bd1_s, if_pos rfl, g2, bd1_s, g3, bd1_s, cl_findn h.1 c7 hp, bd1_s, cl_find h.1 d7 hpd, bd1_s, if_pos (by decide)]
          rfl
        split
        · exact rev_no hr hn h hs hE hdn scL scx Ksz Kcl Kke z7 z10 (f := d) (t := c) (by omega) hm no
        · unfold fL_law_J1914
          rw [if_neg cn, k18 (by omega), c18 (by omega), if_pos (by rw [lt_i, toInt_0]; omega)]
          exact rev_no hr hn h hs hE hdn scL scx Ksz Kcl Kke z7 z10 (f := d) (t := c) (by omega) hm no
      | true =>
        have w : (0 : Int) ≤ (qq (10 + c)).toInt := of_decide_eq_true hp
        have hRk := rk_lt hp c7
        obtain ⟨-, -, -, -, -, y6, y7⟩ := fr_toInt h.2.2.1 h.2.2.2.2.1 h.2.2.2.2.2.1 c7 hp
        by_cases can : a.toInt ≤ (mm d).toInt - hz hh d
        · rw [if_neg (by rw [lt_i, f1]; omega)]
          unfold fL_law_J1914
          rw [if_neg cn, k18 (by omega), c18 (by omega), if_neg (by rw [lt_i, toInt_0]; omega)]
          unfold fL_law_J1934
          have cc : (nI c).toNatClampNeg = c := nI_clamp (by omega)
          have sm : (mm c + a.toInt64).toInt = (mm c).toInt + a.toInt := by rw [add64 (by rw [up64]; omega) (by rw [up64]; omega), up64]
          rw [if_neg cn, kc25 (by omega), kb4 hm, cc, cb4 hm, ea]
          by_cases room : (mm c).toInt + a.toInt ≤ 1000000000
          · rw [if_neg (by rw [lt64, e9, sm]; omega)]
            obtain ⟨Aba', Amo', Tlc', Ttc', ee', mm', qq', x1, x2, x3, x4, x5⟩ := rev3_x h (by omega) (by omega) h1 ⟨hc1, hc2⟩ hp ⟨hd1, hd2⟩ hpd hcd ha can room q3 ec ed ea
            have m1 : vp_updL mm d (mm d - a.toInt64) = (if nI d ≤ 0 then mm else vp_updL mm d (mm d - a.toInt64)) := by rw [if_neg dp]
            refine rev_yes hr hn h hs hE hdn h1 scL scx Ksz Kcl Kke z7 z10 (f := d) (t := c) (s := d) x1 q3 (by decide) ec ed ea m1 (by omega) (by omega) (m2 := rfl) ?_ x4 x3 x5
            rw [if_neg cp, if_neg (by decide), if_neg (by decide), updL_n (j := 23) (k := 22) (by omega), updL_n (f := vp_updL mm d (mm d - a.toInt64)) (j := 22) (k := c) (by omega), updL_n (f := mm) (j := 22) (k := d) (by omega), updL_n (f := vp_updL mm d (mm d - a.toInt64)) (j := 23) (k := c) (by omega), updL_n (f := mm) (j := 23) (k := d) (by omega), updL_n (f := mm) (j := c) (k := d) hcd]
            exact x2
          · rw [if_pos (by rw [lt64, e9, sm]; omega)]
            refine rev_full hr hn h hs hE hdn scL scx Ksz Kcl Kke z7 z10 (f := d) (t := c) ?_
            have es : ((1000000000 : Int32) - a).toInt = 1000000000 - a.toInt := by rw [sub_toInt (by rw [toInt_e9]; omega) (by rw [toInt_e9]; omega), toInt_e9]
            unfold fX5_reverseEntry
            rw [lx.1, bd1_s, if_neg (by decide), g1, bd1_s, if_neg (by decide), lx.2.2, bd1_s, if_pos rfl, g2, bd1_s, g3, bd1_s, cl_find h.1 c7 hp, bd1_s, cl_find h.1 d7 hpd, bd1_s, if_neg (nI_nl (by omega)), if_pos rfl, if_pos (nI_nn (by omega))]
            unfold fX5_reverseEntry_J104
            rw [if_neg (by decide)]
            unfold fX5_reverseEntry_J116
            rw [if_neg (by decide)]
            unfold fX5_reverseEntry_J129
            rw [g4, bd1_s, if_neg (nI_nl (by omega)), x_freeAt h.1 h.2.2.2.1 d7 hpd, bd1_s, if_pos (by rw [le_i, f1]; exact can)]
            unfold fX5_reverseEntry_J161
            rw [if_neg (nI_nl (by omega)), h.1.1, X0_balanceAt hRk (rk7 _), bd1_s, if_neg (by rw [le_i, es, (cl_bal h.1 c7 hp).2]; omega)]
        · rw [if_pos (by rw [lt_i, f1]; omega)]
          refine rev_no hr hn h hs hE hdn scL scx Ksz Kcl Kke z7 z10 (f := d) (t := c) (by omega) hm ?_
          unfold fX5_reverseEntry
          rw [lx.1, bd1_s, if_neg (by decide), g1, bd1_s, if_neg (by decide), lx.2.2, bd1_s, if_pos rfl, g2, bd1_s, g3, bd1_s, cl_find h.1 c7 hp, bd1_s, cl_find h.1 d7 hpd, bd1_s, if_neg (nI_nl (by omega)), if_pos rfl, if_pos (nI_nn (by omega))]
          unfold fX5_reverseEntry_J104
          rw [if_neg (by decide)]
          unfold fX5_reverseEntry_J116
          rw [if_neg (by decide)]
          unfold fX5_reverseEntry_J129
          rw [g4, bd1_s, if_neg (nI_nl (by omega)), x_freeAt h.1 h.2.2.2.1 d7 hpd, bd1_s, if_neg (by rw [le_i, f1]; exact can)]
  rw [if_neg q3]
  unfold fL_law_J1843
  rw [kb1 hm, cb1 hm, if_neg q1, kb2 hm, cb2 hm, ec]
  unfold fL_law_J1867
  rw [kb1 hm, cb1 hm]
  by_cases q2 : ee (6 * (E % 10) + 1) = 2
  · -- a payment
    have s0 := hs2 (by rw [q2]; decide)
    have ha := ha (by rw [q2]; decide)
    rw [q2] at g1
    rw [s0] at g3
    rw [q2, if_neg (by decide), if_pos rfl]
    unfold fL_law_J1914
    rw [if_neg cn, k18 (by omega), c18 (by omega)]
    cases hp : pq qq c with
    | false =>
      have w : ¬ (0 : Int) ≤ (qq (10 + c)).toInt := of_decide_eq_false hp
      rw [if_pos (by rw [lt_i, toInt_0]; omega)]
      refine rev_no hr hn h hs hE hdn scL scx Ksz Kcl Kke z7 z10 (f := 0) (t := c) (by omega) hm ?_
      unfold fX5_reverseEntry
      rw [lx.1, bd1_s, if_neg (by decide), g1, bd1_s, if_neg (by decide), lx.2.2, bd1_s, if_pos rfl, g2, bd1_s, g3, bd1_s, cl_findn h.1 c7 hp, bd1_s, show fX0_find Asz Anu 0 = some (-1) from cl_findn h.1 (c := 0) (by omega) h.1.2.1, bd1_s, if_pos (by decide)]
      rfl
    | true =>
      have w : (0 : Int) ≤ (qq (10 + c)).toInt := of_decide_eq_true hp
      have hRk := rk_lt hp c7
      obtain ⟨f1, f2, f3, f4, f5, f6, f7⟩ := fr_toInt h.2.2.1 h.2.2.2.2.1 h.2.2.2.2.2.1 c7 hp
      rw [if_neg (by rw [lt_i, toInt_0]; omega)]
      unfold fL_law_J1934
      have cc : (nI c).toNatClampNeg = c := nI_clamp (by omega)
      have sm : (mm c + a.toInt64).toInt = (mm c).toInt + a.toInt := by rw [add64 (by rw [up64]; omega) (by rw [up64]; omega), up64]
      rw [if_neg cn, kc25 (by omega), kb4 hm, cc, cb4 hm, ea]
      by_cases room : (mm c).toInt + a.toInt ≤ 1000000000
      · rw [if_neg (by rw [lt64, e9, sm]; omega)]
        obtain ⟨Aba', Amo', Tlc', Ttc', ee', mm', qq', x1, x2, x3, x4, x5⟩ := rev2_x h (by omega) (by omega) h1 ⟨hc1, hc2⟩ hp ha room q2 ec s0 ea
        have m1 : mm = (if nI 0 ≤ 0 then mm else vp_updL mm 0 (mm 0 - a.toInt64)) := by rw [if_pos (show nI 0 ≤ 0 from Int32.le_refl _)]
        refine rev_yes hr hn h hs hE hdn h1 scL scx Ksz Kcl Kke z7 z10 (f := 0) (t := c) (s := 0) x1 q2 (by decide) ec s0 ea m1 (by omega) (by omega) (m2 := rfl) ?_ x4 x3 x5
        rw [if_neg cp, if_neg (by decide), if_pos rfl, updL_n (j := 23) (k := 22) (by omega), updL_n (f := mm) (j := 22) (k := c) (by omega), updL_n (f := mm) (j := 23) (k := c) (by omega)]
        exact x2
      · rw [if_pos (by rw [lt64, e9, sm]; omega)]
        refine rev_full hr hn h hs hE hdn scL scx Ksz Kcl Kke z7 z10 (f := 0) (t := c) ?_
        have es : ((1000000000 : Int32) - a).toInt = 1000000000 - a.toInt := by rw [sub_toInt (by rw [toInt_e9]; omega) (by rw [toInt_e9]; omega), toInt_e9]
        unfold fX5_reverseEntry
        rw [lx.1, bd1_s, if_neg (by decide), g1, bd1_s, if_neg (by decide), lx.2.2, bd1_s, if_pos rfl, g2, bd1_s, g3, bd1_s, cl_find h.1 c7 hp, bd1_s, show fX0_find Asz Anu 0 = some (-1) from cl_findn h.1 (c := 0) (by omega) h.1.2.1, bd1_s, if_neg (nI_nl (by omega)), if_neg (by decide)]
        unfold fX5_reverseEntry_J104
        rw [if_neg (by decide)]
        unfold fX5_reverseEntry_J116
        rw [if_neg (by decide)]
        unfold fX5_reverseEntry_J129
        rw [g4, bd1_s, if_pos (by decide)]
        unfold fX5_reverseEntry_J161
        rw [if_neg (nI_nl (by omega)), h.1.1, X0_balanceAt hRk (rk7 _), bd1_s, if_neg (by rw [le_i, es, (cl_bal h.1 c7 hp).2]; omega)]
  · -- another kind
    have K4 : 4 ≤ (ee (6 * (E % 10) + 1)).toInt := by
      have n1 : (ee (6 * (E % 10) + 1)).toInt ≠ 1 := fun e => q1 (Int32.toInt_inj.mp (e.trans toInt_1.symm))
      have n2 : (ee (6 * (E % 10) + 1)).toInt ≠ 2 := fun e => q2 (Int32.toInt_inj.mp (e.trans t2'.symm))
      have n3 : (ee (6 * (E % 10) + 1)).toInt ≠ 3 := fun e => q3 (Int32.toInt_inj.mp (e.trans t3.symm))
      omega
    rw [if_pos (by rw [le_i, t4]; exact K4)]
    refine rev_no hr hn h hs hE hdn scL scx Ksz Kcl Kke z7 z10 (f := 0) (t := c) (by omega) hm ?_
    unfold fX5_reverseEntry
    rw [lx.1, bd1_s, if_neg (by decide), g1, bd1_s, if_pos (by rw [lt_i, t3]; omega)]
    rfl
end CRV
