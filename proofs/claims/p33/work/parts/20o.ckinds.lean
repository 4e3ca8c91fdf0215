/-! the law's acts: the three kinds that can be reversed -/
theorem i64_r1 {a b c d e v : Int64} (h : a + b + c = d + e) : a + -v + b + (c - 0) = d + (e - v) := by grind
theorem i64_r2 {a b c d e v : Int64} (h : a + b + c = d + e) : a + v + b + (c - v) = d + (e - 0) := by grind
theorem i64_r3 {a b c d e v : Int64} (h : a + b + c = d + e) : a + -v + v + b + (c - 0) = d + (e - 0) := by grind
section CRK
variable {n E dn t1 t2 : Nat} {Asz : Int32} {Anu : Nat → Int32} {Aba : Nat → Int32} {Amo : Nat → Int32} {Aco : Nat → Int64} {Hsz : Int32} {Hla : Int32} {Hce : Nat → Int32} {Bsz : Int32} {Bla : Int32} {Bce : Nat → Int32} {Tma : Int32} {Tlc : Int32} {Ttc : Nat → Int32} {day : Int32} {lim : Int32} {low : Int32} {hig : Int32} {thr : Int32} {off : Int64} {cre : Int64} {rcp : Int64} {pay : Int64} {ee : Nat → Int32} {mm : Nat → Int64} {qq : Nat → Int32} {hh : Nat → Int32} {bb : Nat → Int32} {sv : Int32} {nx : Int32} {SL : Nat → XS} {rec : (Nat → Int32) → (Nat → Int64) → (Nat → Int32) → (Nat → Int32) → (Nat → Int32) → Int32 → (Nat → Int32) → (Nat → Int32) → Int32 → (Nat → Int32) → (Nat → Int32) → (Nat → Int32) → (Nat → Int64) → Int32 → Int32 → (Nat → Int32) → Int32 → Int32 → (Nat → Int32) → Int32 → Int32 → (Nat → Int32) → Int32 → Int32 → Int32 → Int32 → Int32 → Int64 → Int64 → Int64 → Int64 → Int32 → Int32 → (Nat → XS) → Int32 → Int32 → Option (Int32 ⊕ Unit)}
theorem rev1_x (h : PRc E dn t1 t2 Asz Anu Aba Amo Aco Hsz Hla Hce Bsz Bla Bce Tma Tlc Ttc day lim low hig thr off cre rcp pay ee mm qq hh bb) (hE : E ≤ 40000) (hdn : dn ≤ 2800) (h1 : 1 ≤ E) {c : Nat} (hc : 1 ≤ c ∧ c < 6) (hp : pq qq c = true) {a : Int32} (ha : 1 ≤ a.toInt ∧ a.toInt ≤ 100000000) (hfree : a.toInt ≤ (mm c).toInt - hz hh c) (q1 : ee (6 * (E % 10) + 1) = 1) (q2 : ee (6 * (E % 10) + 2) = nI c) (q3 : ee (6 * (E % 10) + 3) = nI 0) (q4 : ee (6 * (E % 10) + 4) = a) :
    ∃ Aba' Amo' Tlc' Ttc' ee' mm' qq', fX5_reverseEntry Asz Anu Aba Amo Hsz Hce Tma Tlc Ttc day rcp pay (nI E) = some (nI (E + 1), Aba', Amo', nI (E + 1), Tlc', Ttc', (rcp - a.toInt64), pay) ∧ fL_enter ee (vp_updL (vp_updL (vp_updL mm c (mm c - a.toInt64)) 22 (mm 22 - a.toInt64)) 23 (mm 23 - 0)) qq 6 (nI c) (nI 0) a = some (ee', mm', qq') ∧ PRc (E + 1) dn t1 t2 Asz Anu Aba' Amo' Aco Hsz Hla Hce Bsz Bla Bce (nI (E + 1)) Tlc' Ttc' day lim low hig thr off cre (rcp - a.toInt64) pay ee' mm' qq' hh bb ∧ Ttc' (E % 24 * 7 + 6) = 1 ∧ Ttc' (E % 24 * 7 + 1) = 1 := by
  have h0 := h
  obtain ⟨k1, k2, k3, k4, k5, k6, k7, k8, k9, k10⟩ := h0
  obtain ⟨⟨s1, s2, s3, s4⟩, -, ⟨s5, s6, s7, s8⟩, -, s9⟩ := k10
  have h7 : c < 7 := by omega
  have hR := rk_lt hp h7
  have hR12 := rk7 (pq qq)
  have hb := cl_bal k1 h7 hp
  obtain ⟨f1, f2, f3, f4, f5, f6, f7⟩ := fr_toInt k3 k5 k6 h7 hp
  have na : (-a).toInt = -a.toInt := neg_toInt (by omega)
  have lx := last_x h (by omega) h1
  have g1 : fX6_get Tma Ttc (nI E) 1 = _ := lx.2.1 1 (by omega)
  have g2 : fX6_get Tma Ttc (nI E) 2 = _ := lx.2.1 2 (by omega)
  have g3 : fX6_get Tma Ttc (nI E) 3 = _ := lx.2.1 3 (by omega)
  have g4 : fX6_get Tma Ttc (nI E) 4 = _ := lx.2.1 4 (by omega)
  rw [q1] at g1
  rw [q2] at g2
  rw [q3] at g3
  rw [q4] at g4
  have va : (Aba (rk (pq qq) c) + -a).toInt = (mm c).toInt - a.toInt := by rw [add_toInt (by rw [hb.2, na]; omega) (by rw [hb.2, na]; omega), hb.2, na]; omega
  have val : (Aba (rk (pq qq) c) + -a).toInt64 = mm c - a.toInt64 := by
    refine Int64.toInt_inj.mp ?_
    rw [up64, va, sub64 (by rw [up64]; omega) (by rw [up64]; omega), up64]
  have u1 := cl_upd k1 h7 hp (Aba (rk (pq qq) c) + -a)
  rw [val] at u1
  have u2 := CLB_ext (mm' := vp_updL (vp_updL (vp_updL mm c (mm c - a.toInt64)) 22 (mm 22 - a.toInt64)) 23 (mm 23 - 0)) u1 (fun j hj => by rw [updL_n (by omega), updL_n (by omega)])
  obtain ⟨Amo', Tlc', Ttc', ee', mm', qq', e1, e2, e3, e4, e5, e6, e7, e8, e9⟩ := rev_tail h hE hdn h1 u2 (by rw [updL_n (by omega), updL_n (by omega), updL_n (by omega)]) (c := c) (s := 0) h7 hp (by omega) (Or.inl rfl) (a := a) (by omega)
  refine ⟨_, Amo', Tlc', Ttc', ee', mm', qq', ?_, e2, rest_b h e3 e4 e5 e7 (fun j hj => ?_) (fun j hj hpj => ?_) ⟨?_, ?_, ?_, ?_⟩ ?_, e8, by rw [e9]; exact q1⟩
  · unfold fX5_reverseEntry
    rw [lx.1, bd1_s, if_neg (by decide), g1, bd1_s, if_neg (by decide), lx.2.2, bd1_s, if_pos rfl, g2, bd1_s, g3, bd1_s, cl_find k1 h7 hp, bd1_s]
    rw [cl_findn k1 (c := 0) (by omega) k1.2.1, bd1_s, if_neg (nI_nl (by omega)), if_neg (by decide)]
    unfold fX5_reverseEntry_J104
    rw [if_pos rfl]
    unfold fX5_reverseEntry_J116
    rw [if_pos rfl]
    unfold fX5_reverseEntry_J129
    rw [g4, bd1_s, if_neg (nI_nl (by omega)), x_freeAt k1 k4 h7 hp, bd1_s, if_pos (by rw [le_i, f1]; exact hfree)]
    unfold fX5_reverseEntry_J161
    rw [if_pos (by decide)]
    unfold fX5_reverseEntry_J186
    rw [k1.1, X0_add hR (rk7 _), bd1_s, X0_addN, bd1_s, if_pos rfl, lts, ← k1.1]
    exact e1 _ _
  · rw [e6 _ (by omega), updL_n (by omega), updL_n (by omega), updL_n (by omega)]
  · have z := k3 j hj hpj
    have z2 := k6.2 j hj hpj
    rw [e6 _ (by omega), updL_n (by omega), updL_n (by omega)]
    by_cases w : j = c
    · subst w; rw [updL_s, ← val, up64, va]; omega
    · rw [updL_n w]; omega
  · rw [e6 _ (by omega), updL_n (by omega), updL_n (by omega), updL_n (by omega)]; exact s5
  · rw [e6 _ (by omega), updL_n (by omega), updL_n (by omega), updL_n (by omega)]; exact s6
  · rw [e6 _ (by omega), updL_n (by omega), updL_s, s7]
  · rw [e6 _ (by omega), updL_s, s8, Int64.sub_zero]
  · rw [e6 20 (by omega), e6 21 (by omega), e6 22 (by omega), e6 23 (by omega), updL_s, updL_n (j := 20) (by omega), updL_n (j := 20) (by omega), updL_n (j := 20) (by omega), updL_n (j := 21) (by omega), updL_n (j := 21) (by omega), updL_n (j := 21) (by omega), updL_n (j := 22) (k := 23) (by omega), updL_s]
    rw [sumC_cong (u := pq qq) (b := vp_updL mm c (mm c - a.toInt64)) 7 (fun i hi => ⟨rfl, fun _ => by rw [e6 _ (by omega), updL_n (by omega), updL_n (by omega)]⟩), sumC_up (a := mm) (v := -a.toInt64) hp (by rw [updL_s]; exact Int64.sub_eq_add_neg _ _) (fun k hk => updL_n hk) 7 h7]
    exact i64_r1 s9
theorem rev2_x (h : PRc E dn t1 t2 Asz Anu Aba Amo Aco Hsz Hla Hce Bsz Bla Bce Tma Tlc Ttc day lim low hig thr off cre rcp pay ee mm qq hh bb) (hE : E ≤ 40000) (hdn : dn ≤ 2800) (h1 : 1 ≤ E) {c : Nat} (hc : 1 ≤ c ∧ c < 6) (hp : pq qq c = true) {a : Int32} (ha : 1 ≤ a.toInt ∧ a.toInt ≤ 100000000) (hroom : (mm c).toInt + a.toInt ≤ 1000000000) (q1 : ee (6 * (E % 10) + 1) = 2) (q2 : ee (6 * (E % 10) + 2) = nI c) (q3 : ee (6 * (E % 10) + 3) = nI 0) (q4 : ee (6 * (E % 10) + 4) = a) :
    ∃ Aba' Amo' Tlc' Ttc' ee' mm' qq', fX5_reverseEntry Asz Anu Aba Amo Hsz Hce Tma Tlc Ttc day rcp pay (nI E) = some (nI (E + 1), Aba', Amo', nI (E + 1), Tlc', Ttc', rcp, (pay - a.toInt64)) ∧ fL_enter ee (vp_updL (vp_updL (vp_updL mm c (mm c + a.toInt64)) 22 (mm 22 - 0)) 23 (mm 23 - a.toInt64)) qq 6 (nI c) (nI 0) a = some (ee', mm', qq') ∧ PRc (E + 1) dn t1 t2 Asz Anu Aba' Amo' Aco Hsz Hla Hce Bsz Bla Bce (nI (E + 1)) Tlc' Ttc' day lim low hig thr off cre rcp (pay - a.toInt64) ee' mm' qq' hh bb ∧ Ttc' (E % 24 * 7 + 6) = 1 ∧ Ttc' (E % 24 * 7 + 1) = 2 := by
  have h0 := h
  obtain ⟨k1, k2, k3, k4, k5, k6, k7, k8, k9, k10⟩ := h0
  obtain ⟨⟨s1, s2, s3, s4⟩, -, ⟨s5, s6, s7, s8⟩, -, s9⟩ := k10
  have h7 : c < 7 := by omega
  have hR := rk_lt hp h7
  have hR12 := rk7 (pq qq)
  have hb := cl_bal k1 h7 hp
  obtain ⟨f1, f2, f3, f4, f5, f6, f7⟩ := fr_toInt k3 k5 k6 h7 hp
  have na : (-a).toInt = -a.toInt := neg_toInt (by omega)
  have lx := last_x h (by omega) h1
  have g1 : fX6_get Tma Ttc (nI E) 1 = _ := lx.2.1 1 (by omega)
  have g2 : fX6_get Tma Ttc (nI E) 2 = _ := lx.2.1 2 (by omega)
  have g3 : fX6_get Tma Ttc (nI E) 3 = _ := lx.2.1 3 (by omega)
  have g4 : fX6_get Tma Ttc (nI E) 4 = _ := lx.2.1 4 (by omega)
  rw [q1] at g1
  rw [q2] at g2
  rw [q3] at g3
  rw [q4] at g4
  have va : (Aba (rk (pq qq) c) + a).toInt = (mm c).toInt + a.toInt := by rw [add_toInt (by rw [hb.2]; omega) (by rw [hb.2]; omega), hb.2]
  have val : (Aba (rk (pq qq) c) + a).toInt64 = mm c + a.toInt64 := by
    refine Int64.toInt_inj.mp ?_
    rw [up64, va, add64 (by rw [up64]; omega) (by rw [up64]; omega), up64]
  have u1 := cl_upd k1 h7 hp (Aba (rk (pq qq) c) + a)
  rw [val] at u1
  have u2 := CLB_ext (mm' := vp_updL (vp_updL (vp_updL mm c (mm c + a.toInt64)) 22 (mm 22 - 0)) 23 (mm 23 - a.toInt64)) u1 (fun j hj => by rw [updL_n (by omega), updL_n (by omega)])
  obtain ⟨Amo', Tlc', Ttc', ee', mm', qq', e1, e2, e3, e4, e5, e6, e7, e8, e9⟩ := rev_tail h hE hdn h1 u2 (by rw [updL_n (by omega), updL_n (by omega), updL_n (by omega)]) (c := c) (s := 0) h7 hp (by omega) (Or.inl rfl) (a := a) (by omega)
  refine ⟨_, Amo', Tlc', Ttc', ee', mm', qq', ?_, e2, rest_b h e3 e4 e5 e7 (fun j hj => ?_) (fun j hj hpj => ?_) ⟨?_, ?_, ?_, ?_⟩ ?_, e8, by rw [e9]; exact q1⟩
  · unfold fX5_reverseEntry
    rw [lx.1, bd1_s, if_neg (by decide), g1, bd1_s, if_neg (by decide), lx.2.2, bd1_s, if_pos rfl, g2, bd1_s, g3, bd1_s, cl_find k1 h7 hp, bd1_s]
    rw [cl_findn k1 (c := 0) (by omega) k1.2.1, bd1_s, if_neg (nI_nl (by omega)), if_neg (by decide)]
    have es : ((1000000000 : Int32) - a).toInt = 1000000000 - a.toInt := by rw [sub_toInt (by rw [toInt_e9]; omega) (by rw [toInt_e9]; omega), toInt_e9]
    unfold fX5_reverseEntry_J104
    rw [if_neg (by decide)]
    unfold fX5_reverseEntry_J116
    rw [if_neg (by decide)]
    unfold fX5_reverseEntry_J129
    rw [g4, bd1_s, if_pos (by decide)]
    unfold fX5_reverseEntry_J161
    rw [if_neg (nI_nl (by omega)), k1.1, X0_balanceAt hR (rk7 _), bd1_s, if_pos (by rw [le_i, es, hb.2]; omega)]
    unfold fX5_reverseEntry_J186
    rw [X0_addN, bd1_s, X0_add hR (rk7 _), bd1_s, if_neg (by decide), if_pos rfl, lts, ← k1.1]
    exact e1 _ _
  · rw [e6 _ (by omega), updL_n (by omega), updL_n (by omega), updL_n (by omega)]
  · have z := k3 j hj hpj
    have z2 := k6.2 j hj hpj
    rw [e6 _ (by omega), updL_n (by omega), updL_n (by omega)]
    by_cases w : j = c
    · subst w; rw [updL_s, ← val, up64, va]; omega
    · rw [updL_n w]; omega
  · rw [e6 _ (by omega), updL_n (by omega), updL_n (by omega), updL_n (by omega)]; exact s5
  · rw [e6 _ (by omega), updL_n (by omega), updL_n (by omega), updL_n (by omega)]; exact s6
  · rw [e6 _ (by omega), updL_n (by omega), updL_s, s7, Int64.sub_zero]
  · rw [e6 _ (by omega), updL_s, s8]
  · rw [e6 20 (by omega), e6 21 (by omega), e6 22 (by omega), e6 23 (by omega), updL_s, updL_n (j := 20) (by omega), updL_n (j := 20) (by omega), updL_n (j := 20) (by omega), updL_n (j := 21) (by omega), updL_n (j := 21) (by omega), updL_n (j := 21) (by omega), updL_n (j := 22) (k := 23) (by omega), updL_s]
    rw [sumC_cong (u := pq qq) (b := vp_updL mm c (mm c + a.toInt64)) 7 (fun i hi => ⟨rfl, fun _ => by rw [e6 _ (by omega), updL_n (by omega), updL_n (by omega)]⟩), sumC_up (a := mm) (v := a.toInt64) hp (by rw [updL_s]) (fun k hk => updL_n hk) 7 h7]
    exact i64_r2 s9
theorem rev3_x (h : PRc E dn t1 t2 Asz Anu Aba Amo Aco Hsz Hla Hce Bsz Bla Bce Tma Tlc Ttc day lim low hig thr off cre rcp pay ee mm qq hh bb) (hE : E ≤ 40000) (hdn : dn ≤ 2800) (h1 : 1 ≤ E) {c : Nat} (hc : 1 ≤ c ∧ c < 6) (hp : pq qq c = true) {d : Nat} (hd : 1 ≤ d ∧ d < 6) (hpd : pq qq d = true) (hcd : c ≠ d) {a : Int32} (ha : 1 ≤ a.toInt ∧ a.toInt ≤ 100000000) (hfree : a.toInt ≤ (mm d).toInt - hz hh d) (hroom : (mm c).toInt + a.toInt ≤ 1000000000) (q1 : ee (6 * (E % 10) + 1) = 3) (q2 : ee (6 * (E % 10) + 2) = nI c) (q3 : ee (6 * (E % 10) + 3) = nI d) (q4 : ee (6 * (E % 10) + 4) = a) :
    ∃ Aba' Amo' Tlc' Ttc' ee' mm' qq', fX5_reverseEntry Asz Anu Aba Amo Hsz Hce Tma Tlc Ttc day rcp pay (nI E) = some (nI (E + 1), Aba', Amo', nI (E + 1), Tlc', Ttc', rcp, pay) ∧ fL_enter ee (vp_updL (vp_updL (vp_updL (vp_updL mm d (mm d - a.toInt64)) c (mm c + a.toInt64)) 22 (mm 22 - 0)) 23 (mm 23 - 0)) qq 6 (nI c) (nI d) a = some (ee', mm', qq') ∧ PRc (E + 1) dn t1 t2 Asz Anu Aba' Amo' Aco Hsz Hla Hce Bsz Bla Bce (nI (E + 1)) Tlc' Ttc' day lim low hig thr off cre rcp pay ee' mm' qq' hh bb ∧ Ttc' (E % 24 * 7 + 6) = 1 ∧ Ttc' (E % 24 * 7 + 1) = 3 := by
  have h0 := h
  obtain ⟨k1, k2, k3, k4, k5, k6, k7, k8, k9, k10⟩ := h0
  obtain ⟨⟨s1, s2, s3, s4⟩, -, ⟨s5, s6, s7, s8⟩, -, s9⟩ := k10
  have h7 : c < 7 := by omega
  have hR := rk_lt hp h7
  have hR12 := rk7 (pq qq)
  have hb := cl_bal k1 h7 hp
  obtain ⟨f1, f2, f3, f4, f5, f6, f7⟩ := fr_toInt k3 k5 k6 h7 hp
  have na : (-a).toInt = -a.toInt := neg_toInt (by omega)
  have lx := last_x h (by omega) h1
  have g1 : fX6_get Tma Ttc (nI E) 1 = _ := lx.2.1 1 (by omega)
  have g2 : fX6_get Tma Ttc (nI E) 2 = _ := lx.2.1 2 (by omega)
  have g3 : fX6_get Tma Ttc (nI E) 3 = _ := lx.2.1 3 (by omega)
  have g4 : fX6_get Tma Ttc (nI E) 4 = _ := lx.2.1 4 (by omega)
  rw [q1] at g1
  rw [q2] at g2
  rw [q3] at g3
  rw [q4] at g4
  have hd7 : d < 7 := by omega
  have hRd := rk_lt hpd hd7
  have hbd := cl_bal k1 hd7 hpd
  have hne : rk (pq qq) d ≠ rk (pq qq) c := fun z => hcd (rk_inj hpd hp z).symm
  obtain ⟨y1, y2, y3, y4, y5, y6, y7⟩ := fr_toInt k3 k5 k6 hd7 hpd
  have vd : (Aba (rk (pq qq) d) + -a).toInt = (mm d).toInt - a.toInt := by rw [add_toInt (by rw [hbd.2, na]; omega) (by rw [hbd.2, na]; omega), hbd.2, na]; omega
  have vdl : (Aba (rk (pq qq) d) + -a).toInt64 = mm d - a.toInt64 := by
    refine Int64.toInt_inj.mp ?_
    rw [up64, vd, sub64 (by rw [up64]; omega) (by rw [up64]; omega), up64]
  have va : (Aba (rk (pq qq) c) + a).toInt = (mm c).toInt + a.toInt := by rw [add_toInt (by rw [hb.2]; omega) (by rw [hb.2]; omega), hb.2]
  have val : (Aba (rk (pq qq) c) + a).toInt64 = mm c + a.toInt64 := by
    refine Int64.toInt_inj.mp ?_
    rw [up64, va, add64 (by rw [up64]; omega) (by rw [up64]; omega), up64]
  have u0 := cl_upd k1 hd7 hpd (Aba (rk (pq qq) d) + -a)
  rw [vdl] at u0
  have u1 := cl_upd u0 h7 hp (Aba (rk (pq qq) c) + a)
  rw [val] at u1
  have u2 := CLB_ext (mm' := vp_updL (vp_updL (vp_updL (vp_updL mm d (mm d - a.toInt64)) c (mm c + a.toInt64)) 22 (mm 22 - 0)) 23 (mm 23 - 0)) u1 (fun j hj => by rw [updL_n (by omega), updL_n (by omega)])
  obtain ⟨Amo', Tlc', Ttc', ee', mm', qq', e1, e2, e3, e4, e5, e6, e7, e8, e9⟩ := rev_tail h hE hdn h1 u2 (by rw [updL_n (by omega), updL_n (by omega), updL_n (by omega), updL_n (by omega)]) (c := c) (s := d) h7 hp (by omega) (Or.inr hpd) (a := a) (by omega)
  refine ⟨_, Amo', Tlc', Ttc', ee', mm', qq', ?_, e2, rest_b h e3 e4 e5 e7 (fun j hj => ?_) (fun j hj hpj => ?_) ⟨?_, ?_, ?_, ?_⟩ ?_, e8, by rw [e9]; exact q1⟩
  · unfold fX5_reverseEntry
    rw [lx.1, bd1_s, if_neg (by decide), g1, bd1_s, if_neg (by decide), lx.2.2, bd1_s, if_pos rfl, g2, bd1_s, g3, bd1_s, cl_find k1 h7 hp, bd1_s]
    rw [cl_find k1 hd7 hpd, bd1_s, if_neg (nI_nl (by omega)), if_pos rfl, if_pos (nI_nn (by omega))]
    have es : ((1000000000 : Int32) - a).toInt = 1000000000 - a.toInt := by rw [sub_toInt (by rw [toInt_e9]; omega) (by rw [toInt_e9]; omega), toInt_e9]
    unfold fX5_reverseEntry_J104
    rw [if_neg (by decide)]
    unfold fX5_reverseEntry_J116
    rw [if_neg (by decide)]
    unfold fX5_reverseEntry_J129
    rw [g4, bd1_s, if_neg (nI_nl (by omega)), x_freeAt k1 k4 hd7 hpd, bd1_s, if_pos (by rw [le_i, y1]; exact hfree)]
    unfold fX5_reverseEntry_J161
    rw [if_neg (nI_nl (by omega)), k1.1, X0_balanceAt hR (rk7 _), bd1_s, if_pos (by rw [le_i, es, hb.2]; omega)]
    unfold fX5_reverseEntry_J186
    rw [X0_add hRd (rk7 _), bd1_s, X0_add hR (rk7 _), bd1_s, if_neg (by decide), if_neg (by decide), ← k1.1, upd_n (fun z => hne z.symm)]
    exact e1 _ _
  · rw [e6 _ (by omega), updL_n (by omega), updL_n (by omega), updL_n (by omega), updL_n (by omega)]
  · have z := k3 j hj hpj
    have z2 := k6.2 j hj hpj
    rw [e6 _ (by omega), updL_n (by omega), updL_n (by omega)]
    by_cases w : j = c
    · subst w; rw [updL_s, ← val, up64, va]; omega
    · rw [updL_n w]
      by_cases w : j = d
      · subst w; rw [updL_s, ← vdl, up64, vd]; omega
      · rw [updL_n w]; omega
  · rw [e6 _ (by omega), updL_n (by omega), updL_n (by omega), updL_n (by omega), updL_n (by omega)]; exact s5
  · rw [e6 _ (by omega), updL_n (by omega), updL_n (by omega), updL_n (by omega), updL_n (by omega)]; exact s6
  · rw [e6 _ (by omega), updL_n (by omega), updL_s, s7, Int64.sub_zero]
  · rw [e6 _ (by omega), updL_s, s8, Int64.sub_zero]
  · rw [e6 20 (by omega), e6 21 (by omega), e6 22 (by omega), e6 23 (by omega), updL_s, updL_n (j := 20) (by omega), updL_n (j := 20) (by omega), updL_n (j := 20) (by omega), updL_n (j := 20) (by omega), updL_n (j := 21) (by omega), updL_n (j := 21) (by omega), updL_n (j := 21) (by omega), updL_n (j := 21) (by omega), updL_n (j := 22) (k := 23) (by omega), updL_s]
    rw [sumC_cong (u := pq qq) (b := vp_updL (vp_updL mm d (mm d - a.toInt64)) c (mm c + a.toInt64)) 7 (fun i hi => ⟨rfl, fun _ => by rw [e6 _ (by omega), updL_n (by omega), updL_n (by omega)]⟩), sumC_up (a := vp_updL mm d (mm d - a.toInt64)) (v := a.toInt64) hp (by rw [updL_s, updL_n hcd]) (fun k hk => updL_n hk) 7 h7, sumC_up (a := mm) (v := -a.toInt64) hpd (by rw [updL_s]; exact Int64.sub_eq_add_neg _ _) (fun k hk => updL_n hk) 7 hd7]
    exact i64_r3 s9
end CRK
