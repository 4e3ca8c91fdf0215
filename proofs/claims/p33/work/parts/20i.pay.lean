/-! receipts, payments, transfers -/
theorem amt_i {a : Int32} (h : 1 ≤ a.toInt ∧ a.toInt ≤ 100000000) : fX7_isAmount a = some 1 := by
  unfold fX7_isAmount
  rw [if_neg (by rw [lt_i, toInt_1]; omega)]
  first
    | rw [if_neg (by rw [lt_i, toInt_e8]; omega)]
    | rw [if_pos (by rw [le_i, toInt_e8]; omega)]
theorem neg_x {r : Int32} (h : r < 0) : ¬ 0 ≤ r := fun z => by rw [lt_i] at h; rw [le_i] at z; omega
theorem EIB_1 {k c : Nat} {a : Int32} (hk : k = 1 ∨ k = 2) (hc : 1 ≤ c ∧ c < 6) (ha : 1 ≤ a.toInt ∧ a.toInt ≤ 100000000) : EIB (nI k) (nI c) (nI 0) a := by
  have e := nI_toInt (n := k) (by omega)
  exact ⟨by omega, ⟨c, hc.1, hc.2, rfl⟩, fun _ => ha, fun _ => rfl, fun h => by omega⟩
theorem i64_1 {a b c d e v : Int64} (h : a + b + c = d + e) : a + v + b + c = d + (e + v) := by grind
theorem i64_2 {a b c d e v : Int64} (h : a + b + c = d + e) : a - v + b + (c + v) = d + e := by grind
theorem i64_3 {a b c d e v : Int64} (h : a + b + c = d + e) : a + -v + b + (c + v) = d + e := by grind
theorem i64_4 {a b c d e v : Int64} (h : a + b + c = d + e) : a + -v + v + b + c = d + e := by grind
theorem i64_5 {a b c d e v : Int64} (h : a + b + c = d + e) : a + -v + (b + v) + c = d + e := by grind
section PAY
variable {E dn t1 t2 : Nat} {Asz : Int32} {Anu : Nat → Int32} {Aba : Nat → Int32} {Amo : Nat → Int32} {Aco : Nat → Int64} {Hsz : Int32} {Hla : Int32} {Hce : Nat → Int32} {Bsz : Int32} {Bla : Int32} {Bce : Nat → Int32} {Tma : Int32} {Tlc : Int32} {Ttc : Nat → Int32} {day : Int32} {lim : Int32} {low : Int32} {hig : Int32} {thr : Int32} {off : Int64} {cre : Int64} {rcp : Int64} {pay : Int64} {ee : Nat → Int32} {mm : Nat → Int64} {qq : Nat → Int32} {hh : Nat → Int32} {bb : Nat → Int32} {sv : Int32} {nx : Int32} {SL : Nat → XS}
/-- what a balance change and the entry behind it leave -/
theorem rest_b (h : PRc E dn t1 t2 Asz Anu Aba Amo Aco Hsz Hla Hce Bsz Bla Bce Tma Tlc Ttc day lim low hig thr off cre rcp pay ee mm qq hh bb) {mm' : Nat → Int64} {qq' ee' : Nat → Int32} {Aba' Amo' Ttc' : Nat → Int32} {Tlc' : Int32} {off' rcp' pay' : Int64} (c1 : CLB Asz Anu Aba' Amo' mm' qq') (c2 : TRB (E + 1) (nI (E + 1)) Tlc' Ttc' mm' qq' ee') (c3 : pq qq' = pq qq) (c4 : ∀ j, j ≠ 5 → j < 10 → qq' j = qq j) (c5 : ∀ c, c < 7 → mm' (10 + c) = mm (10 + c)) (c6 : ∀ c, c < 7 → pq qq c = true → 0 ≤ (mm' c).toInt ∧ (mm' c).toInt ≤ 1000000000 ∧ hz hh c ≤ (mm' c).toInt) (c7 : mm' 20 = off' ∧ mm' 21 = cre ∧ mm' 22 = rcp' ∧ mm' 23 = pay') (c8 : sumC (pq qq) mm' 7 + mm' 20 + mm' 23 = mm' 21 + mm' 22) :
    PRc (E + 1) dn t1 t2 Asz Anu Aba' Amo' Aco Hsz Hla Hce Bsz Bla Bce (nI (E + 1)) Tlc' Ttc' day lim low hig thr off' cre rcp' pay' ee' mm' qq' hh bb := by
  obtain ⟨k1, k2, k3, k4, k5, k6, k7, k8, k9, k10⟩ := h
  obtain ⟨⟨s1, s2, s3, s4⟩, ⟨s5, s6, s7, s8⟩, -, s9, -⟩ := k10
  refine ⟨c1, fun c hc hp => ?_, fun c hc hp => ?_, k4, fun k hk => ?_, ⟨k6.1, fun c hc hp => ?_⟩, k7, fun k hk => ?_, c2, ⟨s1, by rw [c4 0 (by omega) (by omega)]; exact s2, by rw [c4 6 (by omega) (by omega)]; exact s3, by rw [c4 7 (by omega) (by omega)]; exact s4⟩, ⟨by rw [c4 1 (by omega) (by omega)]; exact s5, by rw [c4 2 (by omega) (by omega)]; exact s6, by rw [c4 3 (by omega) (by omega)]; exact s7, by rw [c4 4 (by omega) (by omega)]; exact s8⟩, c7, s9, by rw [c3]; exact c8⟩
  · rw [c3] at hp ⊢
    rw [c5 c hc]; exact k2 c hc hp
  · rw [c3] at hp
    rw [c5 c hc]
    have := k3 c hc hp
    have := c6 c hc hp
    omega
  · have := k5 k hk
    rw [c3]; exact this
  · rw [c3] at hp
    exact (c6 c hc hp).2.2
  · have := k8 k hk
    rw [c3]; exact this
theorem receive_x (h : PRc E dn t1 t2 Asz Anu Aba Amo Aco Hsz Hla Hce Bsz Bla Bce Tma Tlc Ttc day lim low hig thr off cre rcp pay ee mm qq hh bb) (hE : E ≤ 40000) (hdn : dn ≤ 2800) {c : Nat} (h7 : c < 7) (hp : pq qq c = true) {a : Int32} (ha : 1 ≤ a.toInt ∧ a.toInt ≤ 100000000) (hroom : (mm c).toInt + a.toInt ≤ 1000000000) :
    ∃ r Aba' Amo' Tlc' Ttc' rcp' ee' mm' qq', 0 ≤ r ∧ r.toInt64 = mm c + a.toInt64 ∧ fX5_takeReceipt Asz Anu Aba Amo Tma Tlc Ttc day rcp (nI c) a = some (r, Aba', Amo', nI (E + 1), Tlc', Ttc', rcp') ∧ fL_enter ee (vp_updL (vp_updL mm c (mm c + a.toInt64)) 22 (mm 22 + a.toInt64)) qq 1 (nI c) 0 a = some (ee', mm', qq') ∧ PRc (E + 1) dn t1 t2 Asz Anu Aba' Amo' Aco Hsz Hla Hce Bsz Bla Bce (nI (E + 1)) Tlc' Ttc' day lim low hig thr off cre rcp' pay ee' mm' qq' hh bb := by
  have h0 := h
  obtain ⟨k1, k2, k3, k4, k5, k6, k7, k8, k9, k10⟩ := h0
  obtain ⟨⟨s1, s2, s3, s4⟩, -, ⟨s5, s6, s7, s8⟩, -, s9⟩ := k10
  have hn := pq_ne k1 h7 hp
  have hR := rk_lt hp h7
  have hR12 := rk7 (pq qq)
  have hb := cl_bal k1 h7 hp
  obtain ⟨f1, f2, f3, f4, f5, f6, f7⟩ := fr_toInt k3 k5 k6 h7 hp
  have va : (Aba (rk (pq qq) c) + a).toInt = (mm c).toInt + a.toInt := by rw [add_toInt (by rw [hb.2]; omega) (by rw [hb.2]; omega), hb.2]
  have vl : (Aba (rk (pq qq) c) + a).toInt64 = mm c + a.toInt64 := by
    refine Int64.toInt_inj.mp ?_
    rw [up64, va, add64 (by rw [up64]; omega) (by rw [up64]; omega), up64]
  have u1 := cl_upd k1 h7 hp (Aba (rk (pq qq) c) + a)
  rw [vl] at u1
  have u2 := CLB_ext (mm' := vp_updL (vp_updL mm c (mm c + a.toInt64)) 22 (mm 22 + a.toInt64)) u1 (fun j hj => updL_n (by omega))
  have t2 : TRB E Tma Tlc Ttc (vp_updL (vp_updL mm c (mm c + a.toInt64)) 22 (mm 22 + a.toInt64)) qq ee := by
    obtain ⟨w1, w2, w3, w4⟩ := k9
    exact ⟨w1, w2, by rw [updL_n (by omega), updL_n (by omega)]; exact w3, w4⟩
  obtain ⟨Amo', Tlc', Ttc', ee', mm', qq', e1, e2, e3, e4, e5, e6, e7⟩ := enter_b (k := nI 1) (cs := 0) u2 t2 (by omega) ⟨s1, s2, by omega⟩ h7 hp (by omega) (Or.inl rfl) (by decide) (a := a) (by omega) (EIB_1 (Or.inl rfl) hn ha)
  refine ⟨Aba (rk (pq qq) c) + a, _, Amo', Tlc', Ttc', rcp + a.toInt64, ee', mm', qq', by rw [le_i, va, toInt_0]; omega, vl, ?_, e2, rest_b h e3 e4 e5 e7 (fun j hj => ?_) (fun j hj hpj => ?_) ⟨?_, ?_, ?_, ?_⟩ ?_⟩
  · unfold fX5_takeReceipt
    rw [cl_find k1 h7 hp, bd1_s, if_pos (nI_nn (by omega)), amt_i ha, bd1_s, if_neg (by decide), k1.1, X0_balanceAt hR (rk7 _), bd1_s]
    have es : ((1000000000 : Int32) - a).toInt = 1000000000 - a.toInt := by rw [sub_toInt (by rw [toInt_e9]; omega) (by rw [toInt_e9]; omega), toInt_e9]
    rw [if_pos (by rw [le_i, es, hb.2]; omega), X0_add hR (rk7 _), bd1_s, lts, ← k1.1]
    have e1 : fX5_enter Asz Anu Amo Tma Tlc Ttc day 1 (nI c) 0 a = _ := e1
    rw [e1, bd4_s, k1.1, X0_balanceAt hR (rk7 _), bd1_s, upd_s]
  · rw [e6 _ (by omega), updL_n (by omega), updL_n (by omega)]
  · have g := k3 j hj hpj
    have g2 := k6.2 j hj hpj
    rw [e6 _ (by omega), updL_n (by omega)]
    by_cases w : j = c
    · subst w; rw [updL_s, ← vl, up64, va]; omega
    · rw [updL_n w]; omega
  · rw [e6 _ (by omega), updL_n (by omega), updL_n (by omega)]; exact s5
  · rw [e6 _ (by omega), updL_n (by omega), updL_n (by omega)]; exact s6
  · rw [e6 _ (by omega), updL_s, s7]
  · rw [e6 _ (by omega), updL_n (by omega), updL_n (by omega)]; exact s8
  · rw [e6 20 (by omega), e6 21 (by omega), e6 22 (by omega), e6 23 (by omega), updL_n (j := 20) (by omega), updL_n (j := 20) (by omega), updL_n (j := 21) (by omega), updL_n (j := 21) (by omega), updL_s, updL_n (j := 23) (by omega), updL_n (j := 23) (by omega)]
    rw [sumC_cong (u := pq qq) (b := vp_updL mm c (mm c + a.toInt64)) 7 (fun i hi => ⟨rfl, fun _ => by rw [e6 _ (by omega), updL_n (by omega)]⟩), sumC_up (a := mm) (v := a.toInt64) hp (updL_s _ _ _) (fun k hk => updL_n hk) 7 h7]
    exact i64_1 s9
theorem pay_x (h : PRc E dn t1 t2 Asz Anu Aba Amo Aco Hsz Hla Hce Bsz Bla Bce Tma Tlc Ttc day lim low hig thr off cre rcp pay ee mm qq hh bb) (hE : E ≤ 40000) (hdn : dn ≤ 2800) {c : Nat} (h7 : c < 7) (hp : pq qq c = true) {a : Int32} (ha : 1 ≤ a.toInt ∧ a.toInt ≤ 100000000) (hfree : a.toInt ≤ (mm c).toInt - hz hh c) :
    ∃ r Aba' Amo' Tlc' Ttc' pay' ee' mm' qq', 0 ≤ r ∧ r.toInt64 = mm c - a.toInt64 ∧ fX5_makePayment Asz Anu Aba Amo Hsz Hce Tma Tlc Ttc day pay (nI c) a = some (r, Aba', Amo', nI (E + 1), Tlc', Ttc', pay') ∧ fL_enter ee (vp_updL (vp_updL mm c (mm c - a.toInt64)) 23 (mm 23 + a.toInt64)) qq 2 (nI c) 0 a = some (ee', mm', qq') ∧ PRc (E + 1) dn t1 t2 Asz Anu Aba' Amo' Aco Hsz Hla Hce Bsz Bla Bce (nI (E + 1)) Tlc' Ttc' day lim low hig thr off cre rcp pay' ee' mm' qq' hh bb := by
  have h0 := h
  obtain ⟨k1, k2, k3, k4, k5, k6, k7, k8, k9, k10⟩ := h0
  obtain ⟨⟨s1, s2, s3, s4⟩, -, ⟨s5, s6, s7, s8⟩, -, s9⟩ := k10
  have hn := pq_ne k1 h7 hp
  have hR := rk_lt hp h7
  have hR12 := rk7 (pq qq)
  have hb := cl_bal k1 h7 hp
  obtain ⟨f1, f2, f3, f4, f5, f6, f7⟩ := fr_toInt k3 k5 k6 h7 hp
  have na : (-a).toInt = -a.toInt := neg_toInt (by omega)
  have va : (Aba (rk (pq qq) c) + -a).toInt = (mm c).toInt - a.toInt := by rw [add_toInt (by rw [hb.2, na]; omega) (by rw [hb.2, na]; omega), hb.2, na]; omega
  have vl : (Aba (rk (pq qq) c) + -a).toInt64 = mm c - a.toInt64 := by
    refine Int64.toInt_inj.mp ?_
    rw [up64, va, sub64 (by rw [up64]; omega) (by rw [up64]; omega), up64]
  have u1 := cl_upd k1 h7 hp (Aba (rk (pq qq) c) + -a)
  rw [vl] at u1
  have u2 := CLB_ext (mm' := vp_updL (vp_updL mm c (mm c - a.toInt64)) 23 (mm 23 + a.toInt64)) u1 (fun j hj => updL_n (by omega))
  have t2 : TRB E Tma Tlc Ttc (vp_updL (vp_updL mm c (mm c - a.toInt64)) 23 (mm 23 + a.toInt64)) qq ee := by
    obtain ⟨w1, w2, w3, w4⟩ := k9
    exact ⟨w1, w2, by rw [updL_n (by omega), updL_n (by omega)]; exact w3, w4⟩
  obtain ⟨Amo', Tlc', Ttc', ee', mm', qq', e1, e2, e3, e4, e5, e6, e7⟩ := enter_b (k := nI 2) (cs := 0) u2 t2 (by omega) ⟨s1, s2, by omega⟩ h7 hp (by omega) (Or.inl rfl) (by decide) (a := a) (by omega) (EIB_1 (Or.inr rfl) hn ha)
  refine ⟨Aba (rk (pq qq) c) + -a, _, Amo', Tlc', Ttc', pay + a.toInt64, ee', mm', qq', by rw [le_i, va, toInt_0]; omega, vl, ?_, e2, rest_b h e3 e4 e5 e7 (fun j hj => ?_) (fun j hj hpj => ?_) ⟨?_, ?_, ?_, ?_⟩ ?_⟩
  · unfold fX5_makePayment
    have fr := x_freeAt k1 k4 h7 hp
    rw [cl_find k1 h7 hp, bd1_s, if_pos (nI_nn (by omega)), amt_i ha, bd1_s, if_neg (by decide), fr, bd1_s, if_pos (by rw [le_i, f1]; exact hfree), k1.1, X0_add hR (rk7 _), bd1_s, lts, ← k1.1]
    have e1 : fX5_enter Asz Anu Amo Tma Tlc Ttc day 2 (nI c) 0 a = _ := e1
    rw [e1, bd4_s, k1.1, X0_balanceAt hR (rk7 _), bd1_s, upd_s]
  · rw [e6 _ (by omega), updL_n (by omega), updL_n (by omega)]
  · have g := k3 j hj hpj
    have g2 := k6.2 j hj hpj
    rw [e6 _ (by omega), updL_n (by omega)]
    by_cases w : j = c
    · subst w; rw [updL_s, ← vl, up64, va]; omega
    · rw [updL_n w]; omega
  · rw [e6 _ (by omega), updL_n (by omega), updL_n (by omega)]; exact s5
  · rw [e6 _ (by omega), updL_n (by omega), updL_n (by omega)]; exact s6
  · rw [e6 _ (by omega), updL_n (by omega), updL_n (by omega)]; exact s7
  · rw [e6 _ (by omega), updL_s, s8]
  · rw [e6 20 (by omega), e6 21 (by omega), e6 22 (by omega), e6 23 (by omega), updL_n (j := 20) (by omega), updL_n (j := 20) (by omega), updL_n (j := 21) (by omega), updL_n (j := 21) (by omega), updL_s, updL_n (j := 22) (by omega), updL_n (j := 22) (by omega)]
    rw [sumC_cong (u := pq qq) (b := vp_updL mm c (mm c - a.toInt64)) 7 (fun i hi => ⟨rfl, fun _ => by rw [e6 _ (by omega), updL_n (by omega)]⟩), sumC_up (a := mm) (v := -a.toInt64) hp (by rw [updL_s]; exact Int64.sub_eq_add_neg _ _) (fun k hk => updL_n hk) 7 h7]
    exact i64_3 s9
theorem transfer_x (h : PRc E dn t1 t2 Asz Anu Aba Amo Aco Hsz Hla Hce Bsz Bla Bce Tma Tlc Ttc day lim low hig thr off cre rcp pay ee mm qq hh bb) (hE : E ≤ 40000) (hdn : dn ≤ 2800) {c d : Nat} (h7 : c < 7) (hp : pq qq c = true) (hd7 : d < 7) (hpd : pq qq d = true) (hcd : c ≠ d) {a : Int32} (ha : 1 ≤ a.toInt ∧ a.toInt ≤ 100000000) (hfree : a.toInt ≤ (mm c).toInt - hz hh c) (hroom : (mm d).toInt + a.toInt ≤ 1000000000) :
    ∃ r Aba' Amo' Tlc' Ttc' ee' mm' qq', 0 ≤ r ∧ r.toInt64 = mm c - a.toInt64 ∧ fX5_makeTransfer Asz Anu Aba Amo Hsz Hce Tma Tlc Ttc day (nI c) (nI d) a = some (r, Aba', Amo', nI (E + 1), Tlc', Ttc') ∧ fL_enter ee (vp_updL (vp_updL mm c (mm c - a.toInt64)) d (mm d + a.toInt64)) qq 3 (nI c) (nI d) a = some (ee', mm', qq') ∧ PRc (E + 1) dn t1 t2 Asz Anu Aba' Amo' Aco Hsz Hla Hce Bsz Bla Bce (nI (E + 1)) Tlc' Ttc' day lim low hig thr off cre rcp pay ee' mm' qq' hh bb := by
  have h0 := h
  obtain ⟨k1, k2, k3, k4, k5, k6, k7, k8, k9, k10⟩ := h0
  obtain ⟨⟨s1, s2, s3, s4⟩, -, ⟨s5, s6, s7, s8⟩, -, s9⟩ := k10
  have hn := pq_ne k1 h7 hp
  have hnd := pq_ne k1 hd7 hpd
  have hR := rk_lt hp h7
  have hRd := rk_lt hpd hd7
  have hR12 := rk7 (pq qq)
  have hne : rk (pq qq) c ≠ rk (pq qq) d := fun z => hcd (rk_inj hp hpd z)
  have hb := cl_bal k1 h7 hp
  have hbd := cl_bal k1 hd7 hpd
  obtain ⟨f1, f2, f3, f4, f5, f6, f7⟩ := fr_toInt k3 k5 k6 h7 hp
  obtain ⟨-, g2, g3, -, -, g6, g7⟩ := fr_toInt k3 k5 k6 hd7 hpd
  have na : (-a).toInt = -a.toInt := neg_toInt (by omega)
  have va : (Aba (rk (pq qq) c) + -a).toInt = (mm c).toInt - a.toInt := by rw [add_toInt (by rw [hb.2, na]; omega) (by rw [hb.2, na]; omega), hb.2, na]; omega
  have vd : (Aba (rk (pq qq) d) + a).toInt = (mm d).toInt + a.toInt := by rw [add_toInt (by rw [hbd.2]; omega) (by rw [hbd.2]; omega), hbd.2]
  have vl : (Aba (rk (pq qq) c) + -a).toInt64 = mm c - a.toInt64 := by
    refine Int64.toInt_inj.mp ?_
    rw [up64, va, sub64 (by rw [up64]; omega) (by rw [up64]; omega), up64]
  have vm : (Aba (rk (pq qq) d) + a).toInt64 = mm d + a.toInt64 := by
    refine Int64.toInt_inj.mp ?_
    rw [up64, vd, add64 (by rw [up64]; omega) (by rw [up64]; omega), up64]
  have u1 := cl_upd k1 h7 hp (Aba (rk (pq qq) c) + -a)
  rw [vl] at u1
  have u2 := cl_upd u1 hd7 hpd (Aba (rk (pq qq) d) + a)
  rw [vm] at u2
  have t2 : TRB E Tma Tlc Ttc (vp_updL (vp_updL mm c (mm c - a.toInt64)) d (mm d + a.toInt64)) qq ee := by
    obtain ⟨w1, w2, w3, w4⟩ := k9
    exact ⟨w1, w2, by rw [updL_n (by omega), updL_n (by omega)]; exact w3, w4⟩
  have hEI : EIB (nI 3) (nI c) (nI d) a := ⟨by decide, ⟨c, hn.1, hn.2, rfl⟩, fun _ => ha, fun e => absurd e (by decide), fun _ => ⟨d, hnd.1, hnd.2, rfl, fun e => hcd (nI_inj (by omega) (by omega) e.symm)⟩⟩
  obtain ⟨Amo', Tlc', Ttc', ee', mm', qq', e1, e2, e3, e4, e5, e6, e7⟩ := enter_b (k := nI 3) u2 t2 (by omega) ⟨s1, s2, by omega⟩ h7 hp hd7 (Or.inr hpd) (by decide) (a := a) (by omega) hEI
  refine ⟨Aba (rk (pq qq) c) + -a, _, Amo', Tlc', Ttc', ee', mm', qq', by rw [le_i, va, toInt_0]; omega, vl, ?_, e2, rest_b h e3 e4 e5 e7 (fun j hj => ?_) (fun j hj hpj => ?_) ⟨?_, ?_, ?_, ?_⟩ ?_⟩
  · unfold fX5_makeTransfer
    have fr := x_freeAt k1 k4 h7 hp
    have es : ((1000000000 : Int32) - a).toInt = 1000000000 - a.toInt := by rw [sub_toInt (by rw [toInt_e9]; omega) (by rw [toInt_e9]; omega), toInt_e9]
    rw [cl_find k1 h7 hp, bd1_s, cl_find k1 hd7 hpd, bd1_s, if_neg (nI_nl (by omega)), if_pos (nI_nn (by omega)), if_neg (fun e => hne (nI_inj (by omega) (by omega) e)), amt_i ha, bd1_s, if_neg (by decide), fr, bd1_s, if_pos (by rw [le_i, f1]; exact hfree), k1.1, X0_balanceAt hRd (rk7 _), bd1_s, if_pos (by rw [le_i, es, hbd.2]; omega), X0_add hR (rk7 _), bd1_s, X0_add hRd (rk7 _), bd1_s, ← k1.1]
    have e1 : fX5_enter Asz Anu Amo Tma Tlc Ttc day 3 (nI c) (nI d) a = _ := e1
    rw [e1, bd4_s, k1.1, X0_balanceAt hR (rk7 _), bd1_s, upd_n hne, upd_s, upd_n (fun z => hne z.symm)]
  · rw [e6 _ (by omega), updL_n (by omega), updL_n (by omega)]
  · have g := k3 j hj hpj
    have g2 := k6.2 j hj hpj
    rw [e6 _ (by omega)]
    by_cases w : j = d
    · subst w; rw [updL_s, ← vm, up64, vd]; omega
    · rw [updL_n w]
      by_cases w : j = c
      · subst w; rw [updL_s, ← vl, up64, va]; omega
      · rw [updL_n w]; omega
  · rw [e6 _ (by omega), updL_n (by omega), updL_n (by omega)]; exact s5
  · rw [e6 _ (by omega), updL_n (by omega), updL_n (by omega)]; exact s6
  · rw [e6 _ (by omega), updL_n (by omega), updL_n (by omega)]; exact s7
  · rw [e6 _ (by omega), updL_n (by omega), updL_n (by omega)]; exact s8
  · rw [e6 20 (by omega), e6 21 (by omega), e6 22 (by omega), e6 23 (by omega), updL_n (j := 20) (by omega), updL_n (j := 20) (by omega), updL_n (j := 21) (by omega), updL_n (j := 21) (by omega), updL_n (j := 22) (by omega), updL_n (j := 22) (by omega), updL_n (j := 23) (by omega), updL_n (j := 23) (by omega)]
    rw [sumC_cong (u := pq qq) (b := vp_updL (vp_updL mm c (mm c - a.toInt64)) d (mm d + a.toInt64)) 7 (fun i hi => ⟨rfl, fun _ => e6 _ (by omega)⟩), sumC_up (a := vp_updL mm c (mm c - a.toInt64)) (v := a.toInt64) hpd (by rw [updL_s, updL_n (fun z => hcd z.symm)]) (fun k hk => updL_n hk) 7 hd7, sumC_up (a := mm) (v := -a.toInt64) hp (by rw [updL_s]; exact Int64.sub_eq_add_neg _ _) (fun k hk => updL_n hk) 7 h7]
    exact i64_4 s9
end PAY
