/-! the pure side, e: receipts, payments, transfers -/
theorem updL_s (f : Nat → Int64) (k : Nat) (x : Int64) : vp_updL f k x k = x := by simp [vp_updL]
theorem updL_n {f : Nat → Int64} {k j : Nat} {x : Int64} (h : j ≠ k) : vp_updL f k x j = f j := by simp [vp_updL, h]
theorem toInt_0 : (0 : Int32).toInt = 0 := rfl
theorem toInt_1 : (1 : Int32).toInt = 1 := rfl
theorem toInt_e8 : (100000000 : Int32).toInt = 100000000 := rfl
theorem toInt_e9 : (1000000000 : Int32).toInt = 1000000000 := rfl
theorem le_i {x y : Int32} : x ≤ y ↔ x.toInt ≤ y.toInt := Int32.le_iff_toInt_le
theorem lt_i {x y : Int32} : x < y ↔ x.toInt < y.toInt := Int32.lt_iff_toInt_lt
theorem nI_nn {c : Nat} (h : c < 2 ^ 31) : (0 : Int32) ≤ nI c := by rw [le_i, nI_toInt h, toInt_0]; omega
theorem nI_nl {c : Nat} (h : c < 2 ^ 31) : ¬ nI c < (0 : Int32) := by rw [lt_i, nI_toInt h, toInt_0]; omega
theorem nI_nm6 {c : Nat} (h : c < 2 ^ 31) : ¬ nI c = (-6 : Int32) := fun e => by have := congrArg Int32.toInt e; rw [nI_toInt h, show ((-6 : Int32)).toInt = -6 from rfl] at this; omega
theorem nI_inj {a b : Nat} (ha : a < 2 ^ 31) (hb : b < 2 ^ 31) (e : nI a = nI b) : a = b := by
  have := congrArg Int32.toInt e
  rw [nI_toInt ha, nI_toInt hb] at this
  omega
theorem amt_dec (p : Int32) : ((1 ≤ p.toInt ∧ p.toInt ≤ 100000000) ∧ fX7_isAmount p = some 1 ∧ fX8_isAmount p = some 1) ∨ (¬ (1 ≤ p.toInt ∧ p.toInt ≤ 100000000) ∧ fX7_isAmount p = some 0 ∧ fX8_isAmount p = some 0) := by
  unfold fX7_isAmount fX8_isAmount
  simp only [within_i, bd1_s, lt_i, toInt_1, toInt_e8]
  by_cases c : 1 ≤ p.toInt ∧ p.toInt ≤ 100000000
  · refine Or.inl ⟨c, ?_, ?_⟩
    · rw [if_neg (by omega), if_neg (by omega)]
    · rw [if_pos c]; rfl
  · refine Or.inr ⟨c, ?_, ?_⟩
    · by_cases d : p.toInt < 1
      · rw [if_pos d]
      · rw [if_neg d, if_pos (by omega)]
    · rw [if_neg c]; rfl
theorem RSc_bal {n C R B E dn c : Nat} {Asz : Int32} {Anu : Nat → Int32} {Aba : Nat → Int32} {Amo : Nat → Int32} {Aco : Nat → Int64} {Hsz : Int32} {Hla : Int32} {Hce : Nat → Int32} {Bsz : Int32} {Bla : Int32} {Bce : Nat → Int32} {Tma : Int32} {Tlc : Int32} {Ttc : Nat → Int32} {day : Int32} {lim : Int32} {low : Int32} {hig : Int32} {thr : Int32} {off : Int64} {cre : Int64} {rcp : Int64} {pay : Int64} {st : Nat → Int32} {gr : Nat → Int64} (h : RSc n C R B E dn Asz Anu Aba Amo Aco Hsz Hla Hce Bsz Bla Bce Tma Tlc Ttc day lim low hig thr off cre rcp pay st gr) (h1 : c < C) (v : Int32) (h2 : v.toInt ≤ 1000000000) (h3 : hsZ Hce (Anu c) R ≤ v.toInt) : RSc n C R B E dn Asz Anu (upd Aba c v) Amo Aco Hsz Hla Hce Bsz Bla Bce Tma Tlc Ttc day lim low hig thr off cre rcp pay (upd st (13 + 3 * c) v) gr := by
  obtain ⟨hc, hi, hr, hrn, hh, hb, hbn, hbi, ht, hv, hE, hs⟩ := h
  have hC := hc.1.2.2
  have hR := hr.1.2.2.1
  have hB := hb.1.2.2.1
  exact ⟨CLr_bal hc h1 v, CIv_bal hi v (by have := (hs_toInt hh hR (Anu c)).2; omega) h2, RWr_ext hr (upd_n (by omega)) (upd_n (by omega)) (fun j hj => upd_n (by omega)), hrn, HIv_bal hh v h3, RWr_ext hb (upd_n (by omega)) (upd_n (by omega)) (fun j hj => upd_n (by omega)), hbn, hbi, TRr_ext ht (upd_n (by omega)) (upd_n (by omega)) (fun j _ _ => upd_n (by omega)), hv, hE, SCr_ext hs (fun j hj => upd_n (by omega))⟩
theorem NIv_mono {R n m : Nat} {la : Int32} {ce : Nat → Int32} (h : NIv R la ce n) (hm : n ≤ m) : NIv R la ce m := ⟨h.1, h.2.1, h.2.2.1, by have := h.2.2.2; omega⟩
theorem RSc_mono {n m C R B E dn : Nat} {Asz : Int32} {Anu : Nat → Int32} {Aba : Nat → Int32} {Amo : Nat → Int32} {Aco : Nat → Int64} {Hsz : Int32} {Hla : Int32} {Hce : Nat → Int32} {Bsz : Int32} {Bla : Int32} {Bce : Nat → Int32} {Tma : Int32} {Tlc : Int32} {Ttc : Nat → Int32} {day : Int32} {lim : Int32} {low : Int32} {hig : Int32} {thr : Int32} {off : Int64} {cre : Int64} {rcp : Int64} {pay : Int64} {st : Nat → Int32} {gr : Nat → Int64} (h : RSc n C R B E dn Asz Anu Aba Amo Aco Hsz Hla Hce Bsz Bla Bce Tma Tlc Ttc day lim low hig thr off cre rcp pay st gr) (hm : n ≤ m) : RSc m C R B E dn Asz Anu Aba Amo Aco Hsz Hla Hce Bsz Bla Bce Tma Tlc Ttc day lim low hig thr off cre rcp pay st gr := by
  obtain ⟨hc, hi, hr, hrn, hh, hb, hbn, hbi, ht, hv, hE, hs⟩ := h
  exact ⟨hc, hi, hr, NIv_mono hrn hm, hh, hb, NIv_mono hbn hm, hbi, ht, hv, Nat.le_trans hE hm, hs⟩
theorem RSc_enter {n C R B E dn : Nat} {Asz : Int32} {Anu : Nat → Int32} {Aba : Nat → Int32} {Amo : Nat → Int32} {Aco : Nat → Int64} {Hsz : Int32} {Hla : Int32} {Hce : Nat → Int32} {Bsz : Int32} {Bla : Int32} {Bce : Nat → Int32} {Tma : Int32} {Tlc : Int32} {Ttc : Nat → Int32} {day : Int32} {lim : Int32} {low : Int32} {hig : Int32} {thr : Int32} {off : Int64} {cre : Int64} {rcp : Int64} {pay : Int64} {st : Nat → Int32} {gr : Nat → Int64} (h : RSc n C R B E dn Asz Anu Aba Amo Aco Hsz Hla Hce Bsz Bla Bce Tma Tlc Ttc day lim low hig thr off cre rcp pay st gr) (hn : n + 1 < 2 ^ 31) {k f s a : Int32} (he : EIv k f s a 0) :
    ∃ Amo' Tma' Tlc' Ttc' st', fX5_enter Asz Anu Amo Tma Tlc Ttc day k f s a = some (Amo', Tma', Tlc', Ttc') ∧ fX8_enters st k f s a = some (nI (E + 1), st') ∧ Tma' = nI (E + 1) ∧ RSc (n + 1) C R B (E + 1) dn Asz Anu Aba Amo' Aco Hsz Hla Hce Bsz Bla Bce Tma' Tlc' Ttc' day lim low hig thr off cre rcp pay st' gr := by
  obtain ⟨hc, hi, hr, hrn, hh, hb, hbn, hbi, ht, hv, hE, hs⟩ := h
  have hR := hr.1.2.2.1
  have hB := hb.1.2.2.1
  obtain ⟨A', T1, T2, T3, st', e1, e2, e3, e4, e5, e6, e7, e8⟩ := enter_both hc hi ht hv (by omega) hs.2.1.1 he
  refine ⟨A', T1, T2, T3, st', e1, e2, e3, e4, hi, RWr_ext hr (e7 _ (by omega)) (e7 _ (by omega)) (fun j hj => e8 _ (by omega) (by omega)), NIv_mono hrn (by omega), hh, RWr_ext hb (e7 _ (by omega)) (e7 _ (by omega)) (fun j hj => e8 _ (by omega) (by omega)), NIv_mono hbn (by omega), hbi, e5, e6, by omega, SCr_ext hs (fun j hj => e7 _ (by omega))⟩
theorem EIv_1 {p a : Int32} (h1 : 1 ≤ a.toInt ∧ a.toInt ≤ 100000000) (h2 : 1 ≤ p.toInt ∧ p.toInt ≤ 99) {k : Int32} (hk : k.toInt = 1 ∨ k.toInt = 2) : EIv k p 0 a 0 := ⟨by omega, Or.inl rfl, fun _ => ⟨h1.1, h1.2, h2.1, h2.2⟩, fun _ => rfl, fun e => by omega⟩
theorem op_receive {n : Nat} {Asz : Int32} {Anu : Nat → Int32} {Aba : Nat → Int32} {Amo : Nat → Int32} {Aco : Nat → Int64} {Hsz : Int32} {Hla : Int32} {Hce : Nat → Int32} {Bsz : Int32} {Bla : Int32} {Bce : Nat → Int32} {Tma : Int32} {Tlc : Int32} {Ttc : Nat → Int32} {day : Int32} {lim : Int32} {low : Int32} {hig : Int32} {thr : Int32} {off : Int64} {cre : Int64} {rcp : Int64} {pay : Int64} {st : Nat → Int32} {gr : Nat → Int64} (h : RS n Asz Anu Aba Amo Aco Hsz Hla Hce Bsz Bla Bce Tma Tlc Ttc day lim low hig thr off cre rcp pay st gr) (hn : n + 1 < 2 ^ 31) (p1 p2 : Int32) :
    (∃ r : Int32, r < 0 ∧ fX5_takeReceipt Asz Anu Aba Amo Tma Tlc Ttc day rcp p1 p2 = some (r, Aba, Amo, Tma, Tlc, Ttc, rcp) ∧ fX8_whyNotReceived st p1 p2 = some r) ∨
    (∃ r Aba' Amo' Tma' Tlc' Ttc' rcp' st' gr', 0 ≤ r ∧ fX5_takeReceipt Asz Anu Aba Amo Tma Tlc Ttc day rcp p1 p2 = some (r, Aba', Amo', Tma', Tlc', Ttc', rcp') ∧ fX8_whyNotReceived st p1 p2 = some 0 ∧ fX8_receives st gr p1 p2 = some (r, st', gr') ∧ RS (n + 1) Asz Anu Aba' Amo' Aco Hsz Hla Hce Bsz Bla Bce Tma' Tlc' Ttc' day lim low hig thr off cre rcp' pay st' gr') := by
  obtain ⟨C, R, B, E, dn, h⟩ := h
  have h' := h
  obtain ⟨hc, hi, hr, hrn, hh, hb, hbn, hbi, ht, hv, hE, hs⟩ := h'
  obtain ⟨hz, h5, hC⟩ := hc.1
  unfold fX5_takeReceipt fX8_whyNotReceived
  rcases find_both hc hi p1 with ⟨c, f1, f2, f3, f4, f5⟩ | ⟨f3, f4, f5⟩
  · rw [f4, bd1_s, if_pos (nI_nn (by omega)), f5, bd1_s, if_neg (nI_nm6 (by omega))]
    rcases amt_dec p2 with ⟨a1, a2, a3⟩ | ⟨a1, a2, a3⟩
    · rw [a2, bd1_s, if_neg (by decide), a3, bd1_s, if_neg (by decide), hz, X0_balanceAt f1 hC, bd1_s]
      have p1' : fX8_part st (nI c) 1 = some (Aba c) := by
        have := M_part (c := c) (k := 1) (by omega) st
        rw [show 12 + 3 * c + 1 = 13 + 3 * c by omega, ← (hc.2 c f1).2.1] at this
        exact this
      unfold fX8_hasRoom
      rw [p1', bd1_s]
      have g := hi.1 c f1
      have es : ((1000000000 : Int32) - p2).toInt = 1000000000 - p2.toInt := by rw [sub_toInt (by rw [toInt_e9]; omega) (by rw [toInt_e9]; omega), toInt_e9]
      by_cases q : Aba c ≤ 1000000000 - p2
      · have q' := le_i.mp q
        rw [es] at q'
        have ev : (Aba c + p2).toInt = (Aba c).toInt + p2.toInt := add_toInt (by omega) (by omega)
        rw [if_pos q, if_neg (by rw [lt_i, es]; omega), bd1_s, if_neg (by decide)]
        right
        have k1 := RSc_bal h f1 (Aba c + p2) (by omega) (by have := hh.2 c f1; omega)
        have k2 : RSc n C R B E dn Asz Anu (upd Aba c (Aba c + p2)) Amo Aco Hsz Hla Hce Bsz Bla Bce Tma Tlc Ttc day lim low hig thr off cre (rcp + p2.toInt64) pay (upd st (13 + 3 * c) (Aba c + p2)) (vp_updL gr 14 (gr 14 + p2.toInt64)) := by
          obtain ⟨hc, hi, hr, hrn, hh, hb, hbn, hbi, ht, hv, hE, hs⟩ := k1
          refine ⟨CLr_ext hc rfl (fun _ _ _ => rfl) (fun j hj => updL_n (by omega)), hi, hr, hrn, hh, hb, hbn, hbi, ht, hv, hE, hs.1, hs.2.1, ?_, hs.2.2.2⟩
          obtain ⟨s1, s2, s3, s4⟩ := hs.2.2.1
          rw [updL_n (by omega), updL_n (by omega), updL_s, updL_n (by omega), s3]
          exact ⟨s1, s2, rfl, s4⟩
        obtain ⟨A', T1, T2, T3, st', e1, e2, e3, e4⟩ := RSc_enter k2 hn (k := 1) (f := p1) (s := 0) (a := p2) (EIv_1 a1 (by rw [← f2]; omega) (Or.inl rfl))
        rw [hz] at e1
        refine ⟨Aba c + p2, upd Aba c (Aba c + p2), A', T1, T2, T3, rcp + p2.toInt64, st', vp_updL gr 14 (gr 14 + p2.toInt64), by rw [le_i, ev, toInt_0]; omega, ?_, rfl, ?_, ⟨C, R, B, E + 1, dn, hz ▸ e4⟩⟩
        · rw [X0_add f1 hC, bd1_s, lts, e1, bd4_s, X0_balanceAt f1 hC, bd1_s, upd_s]
        · unfold fX8_receives
          rw [show ckI 14 16 _ = _ from ckI_ok (i := 14) (by omega) (by omega), show ckI 14 16 _ = _ from ckI_ok (i := 14) (by omega) (by omega), show (14 : Int32).toNatClampNeg = 14 from rfl, lts, f5, bd1_s, M_adds (by omega), bd2_s, ← (hc.2 c f1).2.1, e2, bd2_s]
      · have q' : ¬ (Aba c).toInt ≤ ((1000000000 : Int32) - p2).toInt := fun z => q (le_i.mpr z)
        rw [es] at q'
        rw [if_neg q, if_pos (by rw [lt_i, es]; omega), bd1_s, if_pos rfl]
        exact Or.inl ⟨-4, by decide, rfl, rfl⟩
    · rw [a2, bd1_s, if_pos rfl, a3, bd1_s, if_pos rfl]
      exact Or.inl ⟨-2, by decide, rfl, rfl⟩
  · rw [f4, bd1_s, if_neg (by decide), f5, bd1_s, if_pos rfl]
    exact Or.inl ⟨-1, by decide, rfl, rfl⟩
theorem whyPaid_eq {C R B E dn n : Nat} {Asz : Int32} {Anu : Nat → Int32} {Aba : Nat → Int32} {Amo : Nat → Int32} {Aco : Nat → Int64} {Hsz : Int32} {Hla : Int32} {Hce : Nat → Int32} {Bsz : Int32} {Bla : Int32} {Bce : Nat → Int32} {Tma : Int32} {Tlc : Int32} {Ttc : Nat → Int32} {day : Int32} {lim : Int32} {low : Int32} {hig : Int32} {thr : Int32} {off : Int64} {cre : Int64} {rcp : Int64} {pay : Int64} {st : Nat → Int32} {gr : Nat → Int64} (h : RSc n C R B E dn Asz Anu Aba Amo Aco Hsz Hla Hce Bsz Bla Bce Tma Tlc Ttc day lim low hig thr off cre rcp pay st gr) {c : Nat} (h1 : c < C) : fX5_freeAt Asz Anu Aba Hsz Hce (nI c) = some (Aba c - hsI Hce (Anu c) R) ∧ fX8_free st (nI c) = some (Aba c - hsI Hce (Anu c) R) ∧ (Aba c - hsI Hce (Anu c) R).toInt = (Aba c).toInt - hsZ Hce (Anu c) R ∧ 0 ≤ (Aba c).toInt - hsZ Hce (Anu c) R ∧ 0 ≤ hsZ Hce (Anu c) R ∧ (1 ≤ (Anu c).toInt ∧ (Anu c).toInt ≤ 99) ∧ (0 ≤ (Aba c).toInt ∧ (Aba c).toInt ≤ 1000000000) := by
  obtain ⟨hc, hi, hr, hrn, hh, hb, hbn, hbi, ht, hv, hE, hs⟩ := h
  obtain ⟨q1, q2, -⟩ := free_both hc hr (fun i hi => (hh.1 i hi).2.2.2) hs.2.1.1 h1
  obtain ⟨q3, q4, q5⟩ := free_toInt hi hh hr.1.2.2.1 h1
  have g := hi.1 c h1
  exact ⟨q1, q2, q3, q4, q5, by omega, by omega⟩
theorem op_pay {n : Nat} {Asz : Int32} {Anu : Nat → Int32} {Aba : Nat → Int32} {Amo : Nat → Int32} {Aco : Nat → Int64} {Hsz : Int32} {Hla : Int32} {Hce : Nat → Int32} {Bsz : Int32} {Bla : Int32} {Bce : Nat → Int32} {Tma : Int32} {Tlc : Int32} {Ttc : Nat → Int32} {day : Int32} {lim : Int32} {low : Int32} {hig : Int32} {thr : Int32} {off : Int64} {cre : Int64} {rcp : Int64} {pay : Int64} {st : Nat → Int32} {gr : Nat → Int64} (h : RS n Asz Anu Aba Amo Aco Hsz Hla Hce Bsz Bla Bce Tma Tlc Ttc day lim low hig thr off cre rcp pay st gr) (hn : n + 1 < 2 ^ 31) (p1 p2 : Int32) :
    (∃ r : Int32, r < 0 ∧ fX5_makePayment Asz Anu Aba Amo Hsz Hce Tma Tlc Ttc day pay p1 p2 = some (r, Aba, Amo, Tma, Tlc, Ttc, pay) ∧ fX8_whyNotPaid st p1 p2 = some r) ∨
    (∃ r Aba' Amo' Tma' Tlc' Ttc' pay' st' gr', 0 ≤ r ∧ fX5_makePayment Asz Anu Aba Amo Hsz Hce Tma Tlc Ttc day pay p1 p2 = some (r, Aba', Amo', Tma', Tlc', Ttc', pay') ∧ fX8_whyNotPaid st p1 p2 = some 0 ∧ fX8_pays st gr p1 p2 = some (r, st', gr') ∧ RS (n + 1) Asz Anu Aba' Amo' Aco Hsz Hla Hce Bsz Bla Bce Tma' Tlc' Ttc' day lim low hig thr off cre rcp pay' st' gr') := by
  obtain ⟨C, R, B, E, dn, h⟩ := h
  have h' := h
  obtain ⟨hc, hi, hr, hrn, hh, hb, hbn, hbi, ht, hv, hE, hs⟩ := h'
  obtain ⟨hz, h5, hC⟩ := hc.1
  unfold fX5_makePayment fX8_whyNotPaid
  rcases find_both hc hi p1 with ⟨c, f1, f2, f3, f4, f5⟩ | ⟨f3, f4, f5⟩
  · rw [f4, bd1_s, if_pos (nI_nn (by omega)), f5, bd1_s, if_neg (nI_nm6 (by omega))]
    obtain ⟨w1, w2, w3, w4, w5, w6, w7⟩ := whyPaid_eq h f1
    rcases amt_dec p2 with ⟨a1, a2, a3⟩ | ⟨a1, a2, a3⟩
    · rw [a2, bd1_s, if_neg (by decide), a3, bd1_s, if_neg (by decide), w1, bd1_s, w2, bd1_s]
      by_cases q : p2 ≤ Aba c - hsI Hce (Anu c) R
      · have q' := le_i.mp q
        have en : (-p2).toInt = -p2.toInt := neg_toInt (by omega)
        have ev : (Aba c + -p2).toInt = (Aba c).toInt - p2.toInt := by rw [add_toInt (by omega) (by omega)]; omega
        rw [if_pos q, if_pos q]
        right
        have k1 := RSc_bal h f1 (Aba c + -p2) (by omega) (by omega)
        have k2 : RSc n C R B E dn Asz Anu (upd Aba c (Aba c + -p2)) Amo Aco Hsz Hla Hce Bsz Bla Bce Tma Tlc Ttc day lim low hig thr off cre rcp (pay + p2.toInt64) (upd st (13 + 3 * c) (Aba c + -p2)) (vp_updL gr 15 (gr 15 + p2.toInt64)) := by
          obtain ⟨hc, hi, hr, hrn, hh, hb, hbn, hbi, ht, hv, hE, hs⟩ := k1
          refine ⟨CLr_ext hc rfl (fun _ _ _ => rfl) (fun j hj => updL_n (by omega)), hi, hr, hrn, hh, hb, hbn, hbi, ht, hv, hE, hs.1, hs.2.1, ?_, hs.2.2.2⟩
          obtain ⟨s1, s2, s3, s4⟩ := hs.2.2.1
          rw [updL_n (by omega), updL_n (by omega), updL_n (by omega), updL_s, s4]
          exact ⟨s1, s2, s3, rfl⟩
        obtain ⟨A', T1, T2, T3, st', e1, e2, e3, e4⟩ := RSc_enter k2 hn (k := 2) (f := p1) (s := 0) (a := p2) (EIv_1 a1 (by rw [← f2]; exact w6) (Or.inr rfl))
        rw [hz] at e1
        refine ⟨Aba c + -p2, upd Aba c (Aba c + -p2), A', T1, T2, T3, pay + p2.toInt64, st', vp_updL gr 15 (gr 15 + p2.toInt64), by rw [le_i, ev, toInt_0]; omega, ?_, rfl, ?_, ⟨C, R, B, E + 1, dn, e4⟩⟩
        · rw [hz, X0_add f1 hC, bd1_s, lts, e1, bd4_s, X0_balanceAt f1 hC, bd1_s, upd_s]
        · unfold fX8_pays
          rw [show ckI 15 16 _ = _ from ckI_ok (i := 15) (by omega) (by omega), show ckI 15 16 _ = _ from ckI_ok (i := 15) (by omega) (by omega), show (15 : Int32).toNatClampNeg = 15 from rfl, lts, f5, bd1_s, M_adds (by omega), bd2_s, ← (hc.2 c f1).2.1, e2, bd2_s]
      · rw [if_neg q, if_neg q]
        exact Or.inl ⟨-3, by decide, rfl, rfl⟩
    · rw [a2, bd1_s, if_pos rfl, a3, bd1_s, if_pos rfl]
      exact Or.inl ⟨-2, by decide, rfl, rfl⟩
  · rw [f4, bd1_s, if_neg (by decide), f5, bd1_s, if_pos rfl]
    exact Or.inl ⟨-1, by decide, rfl, rfl⟩
theorem hasRoom_i {c : Nat} (hc : c < 12) {st : Nat → Int32} {v p : Int32} (h : st (13 + 3 * c) = v) : fX8_hasRoom st (nI c) p = some (if (1000000000 - p) < v then 0 else 1) := by
  unfold fX8_hasRoom
  have := M_part (c := c) (k := 1) (by omega) st
  rw [show 12 + 3 * c + 1 = 13 + 3 * c by omega, h] at this
  rw [show fX8_part st (nI c) 1 = _ from this, bd1_s]
  split <;> rfl
theorem room_dec {x p : Int32} (hx : 0 ≤ x.toInt ∧ x.toInt ≤ 1000000000) (hp : 1 ≤ p.toInt ∧ p.toInt ≤ 100000000) : (x ≤ 1000000000 - p ∧ ¬ 1000000000 - p < x ∧ (x + p).toInt = x.toInt + p.toInt ∧ x.toInt + p.toInt ≤ 1000000000) ∨ (¬ x ≤ 1000000000 - p ∧ 1000000000 - p < x) := by
  have es : ((1000000000 : Int32) - p).toInt = 1000000000 - p.toInt := by rw [sub_toInt (by rw [toInt_e9]; omega) (by rw [toInt_e9]; omega), toInt_e9]
  rw [le_i, lt_i, es]
  by_cases c : x.toInt ≤ 1000000000 - p.toInt
  · exact Or.inl ⟨c, by omega, add_toInt (by omega) (by omega), by omega⟩
  · exact Or.inr ⟨c, by omega⟩
theorem op_transfer {n : Nat} {Asz : Int32} {Anu : Nat → Int32} {Aba : Nat → Int32} {Amo : Nat → Int32} {Aco : Nat → Int64} {Hsz : Int32} {Hla : Int32} {Hce : Nat → Int32} {Bsz : Int32} {Bla : Int32} {Bce : Nat → Int32} {Tma : Int32} {Tlc : Int32} {Ttc : Nat → Int32} {day : Int32} {lim : Int32} {low : Int32} {hig : Int32} {thr : Int32} {off : Int64} {cre : Int64} {rcp : Int64} {pay : Int64} {st : Nat → Int32} {gr : Nat → Int64} (h : RS n Asz Anu Aba Amo Aco Hsz Hla Hce Bsz Bla Bce Tma Tlc Ttc day lim low hig thr off cre rcp pay st gr) (hn : n + 1 < 2 ^ 31) (p1 p2 p3 : Int32) :
    (∃ r : Int32, r < 0 ∧ fX5_makeTransfer Asz Anu Aba Amo Hsz Hce Tma Tlc Ttc day p1 p2 p3 = some (r, Aba, Amo, Tma, Tlc, Ttc) ∧ fX8_whyNotMoved st p1 p2 p3 = some r) ∨
    (∃ r Aba' Amo' Tma' Tlc' Ttc' st', 0 ≤ r ∧ fX5_makeTransfer Asz Anu Aba Amo Hsz Hce Tma Tlc Ttc day p1 p2 p3 = some (r, Aba', Amo', Tma', Tlc', Ttc') ∧ fX8_whyNotMoved st p1 p2 p3 = some 0 ∧ fX8_transfers st p1 p2 p3 = some (r, st') ∧ RS (n + 1) Asz Anu Aba' Amo' Aco Hsz Hla Hce Bsz Bla Bce Tma' Tlc' Ttc' day lim low hig thr off cre rcp pay st' gr) := by
  obtain ⟨C, R, B, E, dn, h⟩ := h
  have h' := h
  obtain ⟨hc, hi, hr, hrn, hh, hb, hbn, hbi, ht, hv, hE, hs⟩ := h'
  obtain ⟨hz, h5, hC⟩ := hc.1
  unfold fX5_makeTransfer fX8_whyNotMoved
  rcases find_both hc hi p1 with ⟨c, f1, f2, f3, f4, f5⟩ | ⟨f3, f4, f5⟩
  · rcases find_both hc hi p2 with ⟨d, d1, d2, d3, d4, d5⟩ | ⟨d3, d4, d5⟩
    · rw [f4, bd1_s, d4, bd1_s, if_neg (nI_nl (by omega)), if_pos (nI_nn (by omega)), f5, bd1_s, d5, bd1_s, if_neg (nI_nm6 (by omega)), if_neg (nI_nm6 (by omega))]
      by_cases q0 : c = d
      · subst q0
        rw [if_pos rfl, if_pos (f2.symm.trans d2)]
        exact Or.inl ⟨-2, by decide, rfl, rfl⟩
      · have np : ¬ p1 = p2 := fun e => q0 (Anu_inj hi f1 d1 (by rw [f2, d2, e]))
        rw [if_neg (fun e => q0 (nI_inj (by omega) (by omega) e)), if_neg np]
        rcases amt_dec p3 with ⟨a1, a2, a3⟩ | ⟨a1, a2, a3⟩
        · obtain ⟨w1, w2, w3, w4, w5, w6, w7⟩ := whyPaid_eq h f1
          obtain ⟨v1, v2, v3, v4, v5, v6, v7⟩ := whyPaid_eq h d1
          rw [a2, bd1_s, if_neg (by decide), a3, bd1_s, if_neg (by decide), w1, bd1_s, w2, bd1_s]
          by_cases q : p3 ≤ Aba c - hsI Hce (Anu c) R
          · have q' := le_i.mp q
            have en : (-p3).toInt = -p3.toInt := neg_toInt (by omega)
            have ev : (Aba c + -p3).toInt = (Aba c).toInt - p3.toInt := by rw [add_toInt (by omega) (by omega)]; omega
            rw [if_pos q, if_pos q, hz, X0_balanceAt d1 hC, bd1_s, hasRoom_i (by omega) (hc.2 d d1).2.1.symm, bd1_s]
            rcases room_dec v7 a1 with ⟨q2, q3, ew, ex⟩ | ⟨q2, q3⟩
            · rw [if_pos q2, if_neg q3, if_neg (by decide)]
              right
              have k1 := RSc_bal h f1 (Aba c + -p3) (by omega) (by omega)
              have k2 := RSc_bal k1 d1 (Aba d + p3) (by omega) (by omega)
              obtain ⟨A', T1, T2, T3, st', e1, e2, e3, e4⟩ := RSc_enter k2 hn (k := 3) (f := p1) (s := p2) (a := p3) ⟨by decide, Or.inl rfl, fun _ => ⟨a1.1, a1.2, by rw [← f2]; exact w6⟩, fun e => absurd e (by decide), fun _ => ⟨by rw [← d2]; exact v6.1, by rw [← d2]; exact v6.2, np⟩⟩
              rw [hz] at e1
              refine ⟨Aba c + -p3, upd (upd Aba c (Aba c + -p3)) d (Aba d + p3), A', T1, T2, T3, st', by rw [le_i, ev, toInt_0]; omega, ?_, rfl, ?_, ⟨C, R, B, E + 1, dn, by rw [← hz]; exact e4⟩⟩
              · rw [X0_add f1 hC, bd1_s, X0_add d1 hC, bd1_s, e1, bd4_s, X0_balanceAt f1 hC, bd1_s, upd_n (f := upd Aba c (Aba c + -p3)) q0, upd_s, upd_n (Ne.symm q0)]
              · unfold fX8_transfers
                have f5' : fX8_find (upd st (13 + 3 * c) (Aba c + -p3)) p2 = some (nI d) := M_find_i hC d1 (by rw [upd_n (by omega)]; exact h5) (by rw [upd_n (by omega), ← (hc.2 d d1).1]; exact d2) (fun j hj hne => by rw [upd_n (by omega), ← (hc.2 j hj).1]; exact d3 j hj hne)
                rw [f5, bd1_s, M_adds (by omega), bd2_s, ← (hc.2 c f1).2.1, f5', bd1_s, M_adds (by omega), bd2_s, upd_n (by omega), ← (hc.2 d d1).2.1, e2, bd2_s]
            · rw [if_neg q2, if_pos q3, if_pos rfl]
              exact Or.inl ⟨-4, by decide, rfl, rfl⟩
          · rw [if_neg q, if_neg q]
            exact Or.inl ⟨-3, by decide, rfl, rfl⟩
        · rw [a2, bd1_s, if_pos rfl, a3, bd1_s, if_pos rfl]
          exact Or.inl ⟨-2, by decide, rfl, rfl⟩
    · rw [f4, bd1_s, d4, bd1_s, if_neg (nI_nl (by omega)), if_neg (by decide), f5, bd1_s, d5, bd1_s, if_neg (nI_nm6 (by omega)), if_pos rfl]
      exact Or.inl ⟨-1, by decide, rfl, rfl⟩
  · obtain ⟨r2, g2⟩ : ∃ r, fX0_find Asz Anu p2 = some r := by
      rcases find_both hc hi p2 with ⟨d, -, -, -, d4, -⟩ | ⟨-, d4, -⟩ <;> exact ⟨_, d4⟩
    obtain ⟨r3, g3⟩ : ∃ r, fX8_find st p2 = some r := by
      rcases find_both hc hi p2 with ⟨d, -, -, -, -, d4⟩ | ⟨-, -, d4⟩ <;> exact ⟨_, d4⟩
    rw [f4, bd1_s, g2, bd1_s, if_pos (by decide), f5, bd1_s, g3, bd1_s, if_pos rfl]
    exact Or.inl ⟨-1, by decide, rfl, rfl⟩
