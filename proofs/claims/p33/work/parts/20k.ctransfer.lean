/-! the law's acts: transfers -/
section CTR
variable {n : Nat} {Asz : Int32} {Anu : Nat → Int32} {Aba : Nat → Int32} {Amo : Nat → Int32} {Aco : Nat → Int64} {Hsz : Int32} {Hla : Int32} {Hce : Nat → Int32} {Bsz : Int32} {Bla : Int32} {Bce : Nat → Int32} {Tma : Int32} {Tlc : Int32} {Ttc : Nat → Int32} {day : Int32} {lim : Int32} {low : Int32} {hig : Int32} {thr : Int32} {off : Int64} {cre : Int64} {rcp : Int64} {pay : Int64} {ee : Nat → Int32} {mm : Nat → Int64} {qq : Nat → Int32} {hh : Nat → Int32} {bb : Nat → Int32} {sv : Int32} {nx : Int32} {SL : Nat → XS} {rec : (Nat → Int32) → (Nat → Int64) → (Nat → Int32) → (Nat → Int32) → (Nat → Int32) → Int32 → (Nat → Int32) → (Nat → Int32) → Int32 → (Nat → Int32) → (Nat → Int32) → (Nat → Int32) → (Nat → Int64) → Int32 → Int32 → (Nat → Int32) → Int32 → Int32 → (Nat → Int32) → Int32 → Int32 → (Nat → Int32) → Int32 → Int32 → Int32 → Int32 → Int32 → Int64 → Int64 → Int64 → Int64 → Int32 → Int32 → (Nat → XS) → Int32 → Int32 → Option (Int32 ⊕ Unit)}
theorem case_transfer (hr : HR rec n) (hn : n < 40) (h : PR n Asz Anu Aba Amo Aco Hsz Hla Hce Bsz Bla Bce Tma Tlc Ttc day lim low hig thr off cre rcp pay ee mm qq hh bb sv nx SL) (scL : Nat) (scx : Nat → Int32) (Ksz : Int32) (Kcl : Nat → Int32) (Kke : Nat → Int32) (z7 z10 : Int32) {c d : Nat} (hc : 1 ≤ c ∧ c < 6) (hd : 1 ≤ d ∧ d < 6) {z14 : Int32} (hz : (z14 = 1 ∧ pq qq c = true) ∨ (z14 = 0 ∧ pq qq c = false)) {a : Int32} (ha : 1 ≤ a.toInt ∧ a.toInt ≤ 100000000) :
    (if z14 = 0 then fL_law_J550 scL scx ee mm qq hh bb Ksz Kcl Kke Asz Anu Aba Amo Aco Hsz Hla Hce Bsz Bla Bce Tma Tlc Ttc day lim low hig thr off cre rcp pay sv nx SL z7 (nI n) z10 (nI c) (nI d) a 0 rec else ckI (10 + (nI d)) 18 <| if (qq (10 + (nI d)).toNatClampNeg) < 0 then fL_law_J550 scL scx ee mm qq hh bb Ksz Kcl Kke Asz Anu Aba Amo Aco Hsz Hla Hce Bsz Bla Bce Tma Tlc Ttc day lim low hig thr off cre rcp pay sv nx SL z7 (nI n) z10 (nI c) (nI d) a 0 rec else fL_law_J550 scL scx ee mm qq hh bb Ksz Kcl Kke Asz Anu Aba Amo Aco Hsz Hla Hce Bsz Bla Bce Tma Tlc Ttc day lim low hig thr off cre rcp pay sv nx SL z7 (nI n) z10 (nI c) (nI d) a 1 rec) = some (.inr ()) := by
  obtain ⟨⟨E, dn, t1, t2, h, hE, hdn⟩, hs, -⟩ := h
  obtain ⟨SL', q1⟩ := prep_b Asz Anu Aba Amo Aco Hsz Hla Hce Bsz Bla Bce Tma Tlc Ttc day lim low hig thr off cre rcp pay hs SL
  obtain ⟨sv', nx', q2, q3⟩ := keep_b (sv := sv) hs
  have cc : (nI c).toNatClampNeg = c := nI_clamp (by omega)
  have kk : ∀ {β : Type} (k : Option β), ckI (nI c) 25 k = k := fun k => kc25 (by omega) k
  have cd : (nI d).toNatClampNeg = d := nI_clamp (by omega)
  have kd : ∀ {β : Type} (k : Option β), ckI (nI d) 25 k = k := fun k => kc25 (by omega) k
  have hR12 := rk7 (pq qq)
  -- refused
  have ref : ∀ (v both can : Int32), v < 0 → fX5_makeTransfer Asz Anu Aba Amo Hsz Hce Tma Tlc Ttc day (nI c) (nI d) a = some (v, Aba, Amo, Tma, Tlc, Ttc) → (both = 0 ∧ v = -1 ∧ can = 0) ∨ (both = 1 ∧ c = d ∧ v = -2 ∧ can = 0) ∨ (both = 1 ∧ c ≠ d ∧ v = -3 ∧ can = 0) → fL_law_J583 scL scx ee mm qq hh bb Ksz Kcl Kke Asz Anu Aba Amo Aco Hsz Hla Hce Bsz Bla Bce Tma Tlc Ttc day lim low hig thr off cre rcp pay sv nx SL z7 (nI n) z10 (nI c) (nI d) a both can rec = some (.inr ()) := by
    intro v both can hv e cs
    have e7 : fX7_transfer Asz Anu Aba Amo Aco Hsz Hla Hce Bsz Bla Bce Tma Tlc Ttc day lim low hig thr off cre rcp pay sv nx SL (nI c) (nI d) a = some (v, Aba, Amo, Tma, Tlc, Ttc, sv, nx, SL') := by
      unfold fX7_transfer
      rw [q1, bd1_s, e, bd6_s, kept_neg hv, bd3_s]
    have g : ∀ z : Int32, fL_law_J605 scL scx ee mm qq hh bb Ksz Kcl Kke Asz Anu Aba Amo Aco Hsz Hla Hce Bsz Bla Bce Tma Tlc Ttc day lim low hig thr off cre rcp pay sv nx SL z7 (nI n) z10 (nI c) (nI d) a both can z rec = some (.inr ()) := by
      intro z
      unfold fL_law_J605
      rw [e7, bd9_s]
      rcases cs with ⟨rfl, rfl, rfl⟩ | ⟨rfl, rfl, rfl, rfl⟩ | ⟨rfl, w, rfl, rfl⟩
      · rw [if_pos rfl]
        unfold fL_law_J672
        rw [if_pos (by decide), if_pos rfl]
        exact fin_ok hr hn h (by omega) (by omega) hs scL scx Ksz Kcl Kke z7 z10
      · rw [if_neg (by decide), if_pos rfl]
        unfold fL_law_J672
        rw [if_pos (by decide), if_pos rfl]
        exact fin_ok hr hn h (by omega) (by omega) hs scL scx Ksz Kcl Kke z7 z10
      · rw [if_neg (by decide), if_neg (fun e => w (nI_inj (by omega) (by omega) e)), if_pos rfl]
        unfold fL_law_J672
        rw [if_pos (by decide), if_pos rfl]
        exact fin_ok hr hn h (by omega) (by omega) hs scL scx Ksz Kcl Kke z7 z10
    unfold fL_law_J583
    rw [kd]
    split
    · exact g 0
    · exact g 1
  rcases hz with ⟨rfl, hp⟩ | ⟨rfl, hp⟩
  · rw [if_neg (by decide), k18 (by omega), c18 (by omega)]
    cases hpd : pq qq d with
    | false =>
      have h1 : ¬ (0 : Int) ≤ (qq (10 + d)).toInt := of_decide_eq_false hpd
      rw [if_pos (by rw [lt_i, toInt_0]; omega)]
      unfold fL_law_J550
      rw [if_pos rfl]
      refine ref (-1) 0 0 (by decide) ?_ (Or.inl ⟨rfl, rfl, rfl⟩)
      unfold fX5_makeTransfer
      have hR := rk_lt hp (show c < 7 by omega)
      rw [cl_find h.1 (by omega) hp, bd1_s, cl_findn h.1 (by omega) hpd, bd1_s, if_neg (nI_nl (by omega)), if_neg (by decide)]
    | true =>
      have h1 : (0 : Int) ≤ (qq (10 + d)).toInt := of_decide_eq_true hpd
      have hR := rk_lt hp (show c < 7 by omega)
      have hRd := rk_lt hpd (show d < 7 by omega)
      rw [if_neg (by rw [lt_i, toInt_0]; omega)]
      unfold fL_law_J550
      rw [if_neg (by decide)]
      by_cases w : c = d
      · rw [if_pos (by rw [w])]
        refine ref (-2) 1 0 (by decide) ?_ (Or.inr (Or.inl ⟨rfl, w, rfl, rfl⟩))
        unfold fX5_makeTransfer
        rw [cl_find h.1 (by omega) hp, bd1_s, cl_find h.1 (by omega) hpd, bd1_s, if_neg (nI_nl (by omega)), if_pos (nI_nn (by omega)), if_pos (by rw [w])]
      · have hne : rk (pq qq) c ≠ rk (pq qq) d := fun z => w (rk_inj hp hpd z)
        rw [if_neg (fun e => w (nI_inj (by omega) (by omega) e))]
        obtain ⟨f1, f2, f3, f4, f5, f6, f7⟩ := fr_toInt h.2.2.1 h.2.2.2.2.1 h.2.2.2.2.2.1 (by omega) hp
        have hfr := l_free (mm := mm) (hh := hh) (qq := qq) (c := c) (dn := dn) hc.1 (by omega) h.2.2.2.2.2.2.2.2.2.1.2.1 (by omega) h.2.2.2.2.2.1.1
        rw [hfr, bd1_s]
        by_cases can : a.toInt ≤ (mm c).toInt - hz hh c
        · rw [if_neg (by rw [lt_i, f1]; omega)]
          obtain ⟨-, -, -, -, -, g6, g7⟩ := fr_toInt h.2.2.1 h.2.2.2.2.1 h.2.2.2.2.2.1 (by omega) hpd
          have e9 : (1000000000 : Int64).toInt = 1000000000 := rfl
          have sm : (mm d + a.toInt64).toInt = (mm d).toInt + a.toInt := by rw [add64 (by rw [up64]; omega) (by rw [up64]; omega), up64]
          unfold fL_law_J583
          rw [kd, cd]
          by_cases room : (mm d).toInt + a.toInt ≤ 1000000000
          · rw [if_neg (by rw [lt64, e9, sm]; omega)]
            obtain ⟨r, Aba', Amo', Tlc', Ttc', ee', mm', qq', r1, r2, r3, r4, r5⟩ := transfer_x h (by omega) (by omega) (by omega) hp (by omega) hpd w ha can room
            have e7 : fX7_transfer Asz Anu Aba Amo Aco Hsz Hla Hce Bsz Bla Bce Tma Tlc Ttc day lim low hig thr off cre rcp pay sv nx SL (nI c) (nI d) a = some (r, Aba', Amo', nI (E + 1), Tlc', Ttc', sv', nx', SL') := by
              unfold fX7_transfer
              rw [q1, bd1_s, r3, bd6_s, kept_pos r1 q2, bd3_s]
            unfold fL_law_J605
            rw [e7, bd9_s, if_neg (by decide), if_neg (fun e => w (nI_inj (by omega) (by omega) e)), if_neg (by decide), if_neg (by decide), kk]
            unfold fL_law_J672
            have ud : ∀ x, vp_updL mm c x d = mm d := fun x => updL_n (fun z => w z.symm)
            rw [cc, r2, if_pos rfl, if_neg (by decide), if_neg (by decide)]
            simp only [kk, kd, cc, cd, lts, ud]
            rw [r4, bd3_s]
            exact fin_ok hr hn r5 (by omega) (by omega) q3 scL scx Ksz Kcl Kke z7 z10
          · rw [if_pos (by rw [lt64, e9, sm]; omega)]
            have e : fX5_makeTransfer Asz Anu Aba Amo Hsz Hce Tma Tlc Ttc day (nI c) (nI d) a = some (-4, Aba, Amo, Tma, Tlc, Ttc) := by
              unfold fX5_makeTransfer
              have es : ((1000000000 : Int32) - a).toInt = 1000000000 - a.toInt := by rw [sub_toInt (by rw [toInt_e9]; omega) (by rw [toInt_e9]; omega), toInt_e9]
              rw [cl_find h.1 (by omega) hp, bd1_s, cl_find h.1 (by omega) hpd, bd1_s, if_neg (nI_nl (by omega)), if_pos (nI_nn (by omega)), if_neg (fun e => hne (nI_inj (by omega) (by omega) e)), amt_i ha, bd1_s, if_neg (by decide), x_freeAt h.1 h.2.2.2.1 (by omega) hp, bd1_s, if_pos (by rw [le_i, f1]; exact can), h.1.1, X0_balanceAt hRd (rk7 _), bd1_s, if_neg (by rw [le_i, es, (cl_bal h.1 (by omega) hpd).2]; omega)]
            have e7 : fX7_transfer Asz Anu Aba Amo Aco Hsz Hla Hce Bsz Bla Bce Tma Tlc Ttc day lim low hig thr off cre rcp pay sv nx SL (nI c) (nI d) a = some (-4, Aba, Amo, Tma, Tlc, Ttc, sv, nx, SL') := by
              unfold fX7_transfer
              rw [q1, bd1_s, e, bd6_s, kept_neg (by decide), bd3_s]
            unfold fL_law_J605
            rw [e7, bd9_s, if_neg (by decide), if_neg (fun e => w (nI_inj (by omega) (by omega) e)), if_neg (by decide), if_pos rfl]
            unfold fL_law_J672
            rw [if_pos (by decide), if_neg (by decide), if_pos rfl]
            exact fin_ok hr hn h (by omega) (by omega) hs scL scx Ksz Kcl Kke z7 z10
        · rw [if_pos (by rw [lt_i, f1]; omega)]
          refine ref (-3) 1 0 (by decide) ?_ (Or.inr (Or.inr ⟨rfl, w, rfl, rfl⟩))
          unfold fX5_makeTransfer
          rw [cl_find h.1 (by omega) hp, bd1_s, cl_find h.1 (by omega) hpd, bd1_s, if_neg (nI_nl (by omega)), if_pos (nI_nn (by omega)), if_neg (fun e => hne (nI_inj (by omega) (by omega) e)), amt_i ha, bd1_s, if_neg (by decide), x_freeAt h.1 h.2.2.2.1 (by omega) hp, bd1_s, if_neg (by rw [le_i, f1]; exact can)]
  · rw [if_pos rfl]
    unfold fL_law_J550
    rw [if_pos rfl]
    refine ref (-1) 0 0 (by decide) ?_ (Or.inl ⟨rfl, rfl, rfl⟩)
    unfold fX5_makeTransfer
    have g : ∃ r3, fX0_find Asz Anu (nI d) = some r3 := by
      cases hpd : pq qq d with
      | true => exact ⟨_, cl_find h.1 (by omega) hpd⟩
      | false => exact ⟨_, cl_findn h.1 (by omega) hpd⟩
    obtain ⟨r3, g⟩ := g
    rw [cl_findn h.1 (by omega) hp, bd1_s, g, bd1_s, if_pos (by decide)]
end CTR
