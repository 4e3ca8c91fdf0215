/-! the law's acts: receipts, payments, transfers -/
theorem m1_64 : (-1 : Int32).toInt64 = (-1 : Int64) := by decide
theorem kc25 {c : Nat} (hc : c < 25) {β : Type} (k : Option β) : ckI (nI c) 25 k = k := ckI_ok hc (by omega)
theorem k18 {c : Nat} (hc : c < 8) {β : Type} (k : Option β) : ckI (10 + nI c) 18 k = k := by
  rw [show (10 : Int32) + nI c = nI (10 + c) from nI_add 10 c]; exact ckI_ok (by omega) (by omega)
theorem c18 {c : Nat} (hc : c < 8) : ((10 : Int32) + nI c).toNatClampNeg = 10 + c := by rw [show (10 : Int32) + nI c = nI (10 + c) from nI_add 10 c, nI_clamp (by omega)]
section CPAY
variable {n : Nat} {Asz : Int32} {Anu : Nat → Int32} {Aba : Nat → Int32} {Amo : Nat → Int32} {Aco : Nat → Int64} {Hsz : Int32} {Hla : Int32} {Hce : Nat → Int32} {Bsz : Int32} {Bla : Int32} {Bce : Nat → Int32} {Tma : Int32} {Tlc : Int32} {Ttc : Nat → Int32} {day : Int32} {lim : Int32} {low : Int32} {hig : Int32} {thr : Int32} {off : Int64} {cre : Int64} {rcp : Int64} {pay : Int64} {ee : Nat → Int32} {mm : Nat → Int64} {qq : Nat → Int32} {hh : Nat → Int32} {bb : Nat → Int32} {sv : Int32} {nx : Int32} {SL : Nat → XS} {rec : (Nat → Int32) → (Nat → Int64) → (Nat → Int32) → (Nat → Int32) → (Nat → Int32) → Int32 → (Nat → Int32) → (Nat → Int32) → Int32 → (Nat → Int32) → (Nat → Int32) → (Nat → Int32) → (Nat → Int64) → Int32 → Int32 → (Nat → Int32) → Int32 → Int32 → (Nat → Int32) → Int32 → Int32 → (Nat → Int32) → Int32 → Int32 → Int32 → Int32 → Int32 → Int64 → Int64 → Int64 → Int64 → Int32 → Int32 → (Nat → XS) → Int32 → Int32 → Option (Int32 ⊕ Unit)}
theorem case_receive (hr : HR rec n) (hn : n < 40) (h : PR n Asz Anu Aba Amo Aco Hsz Hla Hce Bsz Bla Bce Tma Tlc Ttc day lim low hig thr off cre rcp pay ee mm qq hh bb sv nx SL) (scL : Nat) (scx : Nat → Int32) (Ksz : Int32) (Kcl : Nat → Int32) (Kke : Nat → Int32) (z7 z10 : Int32) {c : Nat} (hc : 1 ≤ c ∧ c < 6) {z14 : Int32} (hz : (z14 = 1 ∧ pq qq c = true) ∨ (z14 = 0 ∧ pq qq c = false)) {a : Int32} (ha : 1 ≤ a.toInt ∧ a.toInt ≤ 100000000) :
    (ckI (nI c) 25 <| if 1000000000 < ((mm (nI c).toNatClampNeg) + a.toInt64) then fL_law_J311 scL scx ee mm qq hh bb Ksz Kcl Kke Asz Anu Aba Amo Aco Hsz Hla Hce Bsz Bla Bce Tma Tlc Ttc day lim low hig thr off cre rcp pay sv nx SL z7 (nI n) z10 (nI c) z14 a 0 rec else fL_law_J311 scL scx ee mm qq hh bb Ksz Kcl Kke Asz Anu Aba Amo Aco Hsz Hla Hce Bsz Bla Bce Tma Tlc Ttc day lim low hig thr off cre rcp pay sv nx SL z7 (nI n) z10 (nI c) z14 a 1 rec) = some (.inr ()) := by
  obtain ⟨⟨E, dn, t1, t2, h, hE, hdn⟩, hs, -⟩ := h
  obtain ⟨SL', q1⟩ := prep_b Asz Anu Aba Amo Aco Hsz Hla Hce Bsz Bla Bce Tma Tlc Ttc day lim low hig thr off cre rcp pay hs SL
  obtain ⟨sv', nx', q2, q3⟩ := keep_b (sv := sv) hs
  rw [kc25 (by omega), nI_clamp (by omega)]
  have cc : (nI c).toNatClampNeg = c := nI_clamp (by omega)
  have kk : ∀ {β : Type} (k : Option β), ckI (nI c) 25 k = k := fun k => kc25 (by omega) k
  have k22 : ∀ {β : Type} (k : Option β), ckI 22 25 k = k := fun k => kc25 (c := 22) (by omega) k
  have z22 : (22 : Int32).toNatClampNeg = 22 := rfl
  have u22 : ∀ x, vp_updL mm c x 22 = mm 22 := fun x => updL_n (by omega)
  rcases hz with ⟨rfl, hp⟩ | ⟨rfl, hp⟩
  · obtain ⟨f1, f2, f3, f4, f5, f6, f7⟩ := fr_toInt h.2.2.1 h.2.2.2.2.1 h.2.2.2.2.2.1 (by omega) hp
    have e9 : (1000000000 : Int64).toInt = 1000000000 := rfl
    have sm : (mm c + a.toInt64).toInt = (mm c).toInt + a.toInt := by rw [add64 (by rw [up64]; omega) (by rw [up64]; omega), up64]
    by_cases room : (mm c).toInt + a.toInt ≤ 1000000000
    · rw [if_neg (by rw [lt64, e9, sm]; omega)]
      obtain ⟨r, Aba', Amo', Tlc', Ttc', rcp', ee', mm', qq', r1, r2, r3, r4, r5⟩ := receive_x h (by omega) (by omega) (by omega) hp ha room
      have e7 : fX7_receive Asz Anu Aba Amo Aco Hsz Hla Hce Bsz Bla Bce Tma Tlc Ttc day lim low hig thr off cre rcp pay sv nx SL (nI c) a = some (r, Aba', Amo', nI (E + 1), Tlc', Ttc', rcp', sv', nx', SL') := by
        unfold fX7_receive
        rw [q1, bd1_s, r3, bd7_s, kept_pos r1 q2, bd3_s]
      unfold fL_law_J311
      rw [e7, bd10_s, if_neg (by decide), if_neg (by decide), kk]
      unfold fL_law_J352
      rw [cc, r2, if_pos rfl, if_neg (by decide), if_neg (by decide)]
      simp only [kk, k22, cc, z22, lts, u22]
      rw [r4, bd3_s]
      exact fin_ok hr hn r5 (by omega) (by omega) q3 scL scx Ksz Kcl Kke z7 z10
    · rw [if_pos (by rw [lt64, e9, sm]; omega)]
      have e : fX5_takeReceipt Asz Anu Aba Amo Tma Tlc Ttc day rcp (nI c) a = some (-4, Aba, Amo, Tma, Tlc, Ttc, rcp) := by
        unfold fX5_takeReceipt
        have es : ((1000000000 : Int32) - a).toInt = 1000000000 - a.toInt := by rw [sub_toInt (by rw [toInt_e9]; omega) (by rw [toInt_e9]; omega), toInt_e9]
        have hR := rk_lt hp (show c < 7 by omega)
        have hR12 := rk7 (pq qq)
        rw [cl_find h.1 (by omega) hp, bd1_s, if_pos (nI_nn (by omega)), amt_i ha, bd1_s, if_neg (by decide), h.1.1, X0_balanceAt hR (rk7 _), bd1_s, if_neg (by rw [le_i, es, (cl_bal h.1 (by omega) hp).2]; omega)]
      have e7 : fX7_receive Asz Anu Aba Amo Aco Hsz Hla Hce Bsz Bla Bce Tma Tlc Ttc day lim low hig thr off cre rcp pay sv nx SL (nI c) a = some (-4, Aba, Amo, Tma, Tlc, Ttc, rcp, sv, nx, SL') := by
        unfold fX7_receive
        rw [q1, bd1_s, e, bd7_s, kept_neg (by decide), bd3_s]
      unfold fL_law_J311
      rw [e7, bd10_s, if_neg (by decide), if_pos rfl]
      unfold fL_law_J352
      rw [if_pos (by decide), if_neg (by decide), if_pos rfl]
      exact fin_ok hr hn h (by omega) (by omega) hs scL scx Ksz Kcl Kke z7 z10
  · have e : fX5_takeReceipt Asz Anu Aba Amo Tma Tlc Ttc day rcp (nI c) a = some (-1, Aba, Amo, Tma, Tlc, Ttc, rcp) := by
      unfold fX5_takeReceipt
      rw [cl_findn h.1 (by omega) hp, bd1_s, if_neg (by decide)]
    have e7 : fX7_receive Asz Anu Aba Amo Aco Hsz Hla Hce Bsz Bla Bce Tma Tlc Ttc day lim low hig thr off cre rcp pay sv nx SL (nI c) a = some (-1, Aba, Amo, Tma, Tlc, Ttc, rcp, sv, nx, SL') := by
      unfold fX7_receive
      rw [q1, bd1_s, e, bd7_s, kept_neg (by decide), bd3_s]
    have g : ∀ z : Int32, fL_law_J311 scL scx ee mm qq hh bb Ksz Kcl Kke Asz Anu Aba Amo Aco Hsz Hla Hce Bsz Bla Bce Tma Tlc Ttc day lim low hig thr off cre rcp pay sv nx SL z7 (nI n) z10 (nI c) 0 a z rec = some (.inr ()) := fun z => by
      unfold fL_law_J311
      rw [e7, bd10_s, if_pos rfl]
      unfold fL_law_J352
      rw [if_pos (by decide), if_pos rfl]
      exact fin_ok hr hn h (by omega) (by omega) hs scL scx Ksz Kcl Kke z7 z10
    split
    · exact g 0
    · exact g 1
theorem case_pay (hr : HR rec n) (hn : n < 40) (h : PR n Asz Anu Aba Amo Aco Hsz Hla Hce Bsz Bla Bce Tma Tlc Ttc day lim low hig thr off cre rcp pay ee mm qq hh bb sv nx SL) (scL : Nat) (scx : Nat → Int32) (Ksz : Int32) (Kcl : Nat → Int32) (Kke : Nat → Int32) (z7 z10 : Int32) {c : Nat} (hc : 1 ≤ c ∧ c < 6) {z14 : Int32} (hz : (z14 = 1 ∧ pq qq c = true) ∨ (z14 = 0 ∧ pq qq c = false)) {a : Int32} (ha : 1 ≤ a.toInt ∧ a.toInt ≤ 100000000) :
    (if z14 = 0 then fL_law_J435 scL scx ee mm qq hh bb Ksz Kcl Kke Asz Anu Aba Amo Aco Hsz Hla Hce Bsz Bla Bce Tma Tlc Ttc day lim low hig thr off cre rcp pay sv nx SL z7 (nI n) z10 (nI c) z14 a 0 rec else bd1 (fL_free mm qq hh (nI c)) fun r_499 => if r_499 < a then fL_law_J435 scL scx ee mm qq hh bb Ksz Kcl Kke Asz Anu Aba Amo Aco Hsz Hla Hce Bsz Bla Bce Tma Tlc Ttc day lim low hig thr off cre rcp pay sv nx SL z7 (nI n) z10 (nI c) z14 a 0 rec else fL_law_J435 scL scx ee mm qq hh bb Ksz Kcl Kke Asz Anu Aba Amo Aco Hsz Hla Hce Bsz Bla Bce Tma Tlc Ttc day lim low hig thr off cre rcp pay sv nx SL z7 (nI n) z10 (nI c) z14 a 1 rec) = some (.inr ()) := by
  obtain ⟨⟨E, dn, t1, t2, h, hE, hdn⟩, hs, -⟩ := h
  obtain ⟨SL', q1⟩ := prep_b Asz Anu Aba Amo Aco Hsz Hla Hce Bsz Bla Bce Tma Tlc Ttc day lim low hig thr off cre rcp pay hs SL
  obtain ⟨sv', nx', q2, q3⟩ := keep_b (sv := sv) hs
  have cc : (nI c).toNatClampNeg = c := nI_clamp (by omega)
  have kk : ∀ {β : Type} (k : Option β), ckI (nI c) 25 k = k := fun k => kc25 (by omega) k
  have k23 : ∀ {β : Type} (k : Option β), ckI 23 25 k = k := fun k => kc25 (c := 23) (by omega) k
  have z23 : (23 : Int32).toNatClampNeg = 23 := rfl
  have u23 : ∀ x, vp_updL mm c x 23 = mm 23 := fun x => updL_n (by omega)
  rcases hz with ⟨rfl, hp⟩ | ⟨rfl, hp⟩
  · obtain ⟨f1, f2, f3, f4, f5, f6, f7⟩ := fr_toInt h.2.2.1 h.2.2.2.2.1 h.2.2.2.2.2.1 (by omega) hp
    have hfr := l_free (mm := mm) (hh := hh) (qq := qq) (c := c) (dn := dn) hc.1 (by omega) h.2.2.2.2.2.2.2.2.2.1.2.1 (by omega) h.2.2.2.2.2.1.1
    rw [if_neg (by decide), hfr, bd1_s]
    by_cases can : a.toInt ≤ (mm c).toInt - hz hh c
    · rw [if_neg (by rw [lt_i, f1]; omega)]
      obtain ⟨r, Aba', Amo', Tlc', Ttc', pay', ee', mm', qq', r1, r2, r3, r4, r5⟩ := pay_x h (by omega) (by omega) (by omega) hp ha can
      have e7 : fX7_pay Asz Anu Aba Amo Aco Hsz Hla Hce Bsz Bla Bce Tma Tlc Ttc day lim low hig thr off cre rcp pay sv nx SL (nI c) a = some (r, Aba', Amo', nI (E + 1), Tlc', Ttc', pay', sv', nx', SL') := by
        unfold fX7_pay
        rw [q1, bd1_s, r3, bd7_s, kept_pos r1 q2, bd3_s]
      unfold fL_law_J435
      rw [e7, bd10_s, if_neg (by decide), if_neg (by decide), kk]
      unfold fL_law_J476
      rw [cc, r2, if_pos rfl, if_neg (by decide)]
      simp only [kk, k23, cc, z23, lts, u23]
      rw [r4, bd3_s]
      exact fin_ok hr hn r5 (by omega) (by omega) q3 scL scx Ksz Kcl Kke z7 z10
    · rw [if_pos (by rw [lt_i, f1]; omega)]
      have e : fX5_makePayment Asz Anu Aba Amo Hsz Hce Tma Tlc Ttc day pay (nI c) a = some (-3, Aba, Amo, Tma, Tlc, Ttc, pay) := by
        unfold fX5_makePayment
        have hR := rk_lt hp (show c < 7 by omega)
        have hR12 := rk7 (pq qq)
        rw [cl_find h.1 (by omega) hp, bd1_s, if_pos (nI_nn (by omega)), amt_i ha, bd1_s, if_neg (by decide), x_freeAt h.1 h.2.2.2.1 (by omega) hp, bd1_s, if_neg (by rw [le_i, f1]; exact can)]
      have e7 : fX7_pay Asz Anu Aba Amo Aco Hsz Hla Hce Bsz Bla Bce Tma Tlc Ttc day lim low hig thr off cre rcp pay sv nx SL (nI c) a = some (-3, Aba, Amo, Tma, Tlc, Ttc, pay, sv, nx, SL') := by
        unfold fX7_pay
        rw [q1, bd1_s, e, bd7_s, kept_neg (by decide), bd3_s]
      unfold fL_law_J435
      rw [e7, bd10_s, if_neg (by decide), if_pos rfl]
      unfold fL_law_J476
      rw [if_pos (by decide), if_pos rfl]
      exact fin_ok hr hn h (by omega) (by omega) hs scL scx Ksz Kcl Kke z7 z10
  · have e : fX5_makePayment Asz Anu Aba Amo Hsz Hce Tma Tlc Ttc day pay (nI c) a = some (-1, Aba, Amo, Tma, Tlc, Ttc, pay) := by
      unfold fX5_makePayment
      rw [cl_findn h.1 (by omega) hp, bd1_s, if_neg (by decide)]
    have e7 : fX7_pay Asz Anu Aba Amo Aco Hsz Hla Hce Bsz Bla Bce Tma Tlc Ttc day lim low hig thr off cre rcp pay sv nx SL (nI c) a = some (-1, Aba, Amo, Tma, Tlc, Ttc, pay, sv, nx, SL') := by
      unfold fX7_pay
      rw [q1, bd1_s, e, bd7_s, kept_neg (by decide), bd3_s]
    rw [if_pos rfl]
    unfold fL_law_J435
    rw [e7, bd10_s, if_pos rfl]
    unfold fL_law_J476
    rw [if_pos (by decide), if_pos rfl]
    exact fin_ok hr hn h (by omega) (by omega) hs scL scx Ksz Kcl Kke z7 z10
end CPAY
