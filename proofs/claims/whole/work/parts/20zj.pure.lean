/-! the pure side, zj: the orders of a text one after the other -/
theorem rO_end {T i : Nat} (hi : T ≤ i) (h : i < 2 ^ 31) (ch : Nat → Int32) (ltr fi se th : Int32) : fX2_readOrder (nI T) ch (nI i) ltr fi se th = some (0, nI i, ltr, fi, se, th) := by
  unfold fX2_readOrder
  rw [if_neg (nI_nlt hi h)]
theorem n80 {q : Nat} (h : q < 80) : ¬ (80 : Int32) ≤ nI q := by rw [le_i, nI_toInt (by omega), show (80 : Int32).toInt = 80 from rfl]; omega
theorem nn64 {r : Int64} : 0 ≤ r ↔ 0 ≤ r.toInt := Int64.le_iff_toInt_le
theorem carry_L {T : Nat} {ch tx : Nat → Int32} (hT : T ≤ 80) (hc : ∀ i, i < T → ch i = tx i ∧ 33 ≤ (tx i).toInt ∧ (tx i).toInt ≤ 126) {Asz : Int32} {Anu : Nat → Int32} {Hla lim low hig thr : Int32} {N0 : Nat} (hN : N0 + 300000 < 2 ^ 31) : ∀ (k i q kx ky : Nat), T - i < k → i ≤ T → 3 * q ≤ i → T - i < kx → T - i < ky → (∃ n z2 z3, T - i < n ∧ FX T ch n 0 z2 z3 (nI i) = some (-6)) → ∀ (Aba : Nat → Int32) (Amo : Nat → Int32) (Aco : Nat → Int64) (Hsz : Int32) (Hce : Nat → Int32) (Bsz : Int32) (Bla : Int32) (Bce : Nat → Int32) (Tma : Int32) (Tlc : Int32) (Ttc : Nat → Int32) (day : Int32) (off : Int64) (cre : Int64) (rcp : Int64) (pay : Int64) (st : Nat → Int32) (gr : Nat → Int64), RS (N0 + 4800 * q) Asz Anu Aba Amo Aco Hsz Hla Hce Bsz Bla Bce Tma Tlc Ttc day lim low hig thr off cre rcp pay st gr → ∀ (ltr fi se th tb : Int32) (tk : Int64) (ltrM on_ tw thM nu z : Int32), ∃ (Xpo' Xltr' Xfi' Xse' Xth' : Int32) (Aba' : Nat → Int32) (Amo' : Nat → Int32) (Aco' : Nat → Int64) (Hsz' : Int32) (Hce' : Nat → Int32) (Bsz' : Int32) (Bla' : Int32) (Bce' : Nat → Int32) (Tma' : Int32) (Tlc' : Int32) (Ttc' : Nat → Int32) (day' : Int32) (off' : Int64) (cre' : Int64) (rcp' : Int64) (pay' : Int64) (st' : Nat → Int32) (gr' : Nat → Int64) (tb' : Int32) (tk' : Int64) (at' ltr' on' tw' th' nu' z' : Int32), fX7_carryOut_L37 (nI T) ch Asz Anu lim low hig thr kx (nI i) ltr fi se th Aba Amo Aco Hsz Hce Bsz Bla Bce Tma Tlc Ttc day off cre rcp pay z (nI q) = some (Xpo', Xltr', Xfi', Xse', Xth', Aba', Amo', Aco', Hsz', Hce', Bsz', Bla', Bce', Tma', Tlc', Ttc', day', off', cre', rcp', pay', z') ∧ fX8_carryOut_L25 tx (nI T) ky st gr tb tk (nI i) ltrM on_ tw thM nu z 1 = some (st', gr', tb', tk', at', ltr', on', tw', th', nu', z') ∧ RS (N0 + 200000) Asz Anu Aba' Amo' Aco' Hsz' Hla Hce' Bsz' Bla' Bce' Tma' Tlc' Ttc' day' lim low hig thr off' cre' rcp' pay' st' gr' := by
  intro k
  induction k with
  | zero => intro i q kx ky h; omega
  | succ k ih =>
    intro i q kx ky hk hi hq hx hy hfx Aba Amo Aco Hsz Hce Bsz Bla Bce Tma Tlc Ttc day off cre rcp pay st gr hs ltr fi se th tb tk ltrM on_ tw thM nu z
    obtain ⟨n, z2, z3, hn, hfx⟩ := hfx
    rcases ord_i hT hc hi with ⟨e, e1, e2, _⟩ | ⟨e, e1, e2, ⟨c, v1, v2, v3, rx, rm⟩, hcase⟩
    · rw [e2 n z2 z3 hn] at hfx
      exact absurd (Option.some.inj hfx) (nI_nm6 (by omega))
    · obtain ⟨on', tw', th', nu', rm1, rm2⟩ := rm ltrM on_ tw thM nu
      obtain ⟨x, ex⟩ : ∃ x, kx = x + 1 + 1 := ⟨kx - 2, by omega⟩
      obtain ⟨y, ey⟩ : ∃ y, ky = y + 1 + 1 := ⟨ky - 2, by omega⟩
      subst ex ey
      have nxt : ∃ (a : Nat) (r : Int32), fX8_isNext tx (nI T) (nI e) 59 = some (r, nI a) ∧ ((e = T ∧ a = T) ∨ (e < T ∧ a = e + 1 ∧ ∃ n z2 z3, T - (e + 1) < n ∧ FX T ch n 0 z2 z3 (nI (e + 1)) = some (-6))) := by
        rcases hcase with ⟨h1, h2⟩ | ⟨h1, h2, h3⟩ | ⟨h1, h2, h3⟩
        · exact ⟨T, 0, by rw [h1]; exact isn_end hT tx (by decide), Or.inl ⟨h1, rfl⟩⟩
        · rw [h3 n z2 z3 hn] at hfx
          exact absurd (Option.some.inj hfx) (nI_nm6 (by omega))
        · obtain ⟨m, z2', z3', q1, q2⟩ := h3 n z2 z3 hn
          exact ⟨e + 1, 1, isn_yes hT hc h1 h2, Or.inr ⟨h1, rfl, m, z2', z3', q1, q2.symm.trans hfx⟩⟩
      obtain ⟨a, rn, n1, n2⟩ := nxt
      have q8 : ¬ (80 : Int32) ≤ nI q := n80 (by omega)
      have iT : ¬ nI T ≤ nI i := nI_ge (by omega) (by omega)
      rcases op_order hs (by omega) tb tk rm2 with ⟨r, o1, o2, r', o3, o4⟩ | ⟨r, Aba', Amo', Aco', Hsz', Hce', Bsz', Bla', Bce', Tma', Tlc', Ttc', day', off', cre', rcp', pay', st', gr', tb', tk', o1, o2, o3, o4, o5⟩
      · refine ⟨nI (e + 1), c, v1, v2, v3, Aba, Amo, Aco, Hsz, Hce, Bsz, Bla, Bce, Tma, Tlc, Ttc, day, off, cre, rcp, pay, st, gr, tb, tk, nI a, c, on', tw', th', nu', z, ?_, ?_, RS_mono hs (by omega)⟩
        · rw [fX7_carryOut_L37, if_neg q8, rx, bd6_s, if_neg n10, o2, bd17_s, if_neg (fun w => by rw [nn64] at w; omega)]
        · rw [fX8_carryOut_L25, if_neg n10, if_neg iT, rm1, bd7_s, n1, bd2_s, o4, bd1_s, if_neg o3, fX8_carryOut_L25, if_pos rfl]
      · rcases n2 with ⟨n2, n3⟩ | ⟨n2, n3, n4⟩
        · refine ⟨nI (e + 1), c, v1, v2, v3, Aba', Amo', Aco', Hsz', Hce', Bsz', Bla', Bce', Tma', Tlc', Ttc', day', off', cre', rcp', pay', st', gr', tb', tk', nI a, c, on', tw', th', nu', z + 1, ?_, ?_, RS_mono o5 (by omega)⟩
          · rw [fX7_carryOut_L37, if_neg q8, rx, bd6_s, if_neg n10, o2, bd17_s, if_pos (nn64.mpr o1), fX7_carryOut_L37, nI_1, if_neg (n80 (by omega)), rO_end (by omega) (by omega), bd6_s, if_pos rfl]
          · rw [fX8_carryOut_L25, if_neg n10, if_neg iT, rm1, bd7_s, n1, bd2_s, o3, bd1_s, if_pos rfl, o4, bd4_s, fX8_carryOut_L25, if_neg n10, if_pos (nI_le (by omega) (by omega))]
        · subst n3
          obtain ⟨w01, w02, w03, w04, w05, w_Aba, w_Amo, w_Aco, w_Hsz, w_Hce, w_Bsz, w_Bla, w_Bce, w_Tma, w_Tlc, w_Ttc, w_day, w_off, w_cre, w_rcp, w_pay, w11, w12, w13, w14, w15, w16, w17, w18, w19, w20, w21, w1, w2, w3⟩ := ih (e + 1) (q + 1) (x + 1) (y + 1) (by omega) (by omega) (by omega) (by omega) (by omega) n4 Aba' Amo' Aco' Hsz' Hce' Bsz' Bla' Bce' Tma' Tlc' Ttc' day' off' cre' rcp' pay' st' gr' (RS_mono o5 (by omega)) c v1 v2 v3 tb' tk' c on' tw' th' nu' (z + 1)
          refine ⟨w01, w02, w03, w04, w05, w_Aba, w_Amo, w_Aco, w_Hsz, w_Hce, w_Bsz, w_Bla, w_Bce, w_Tma, w_Tlc, w_Ttc, w_day, w_off, w_cre, w_rcp, w_pay, w11, w12, w13, w14, w15, w16, w17, w18, w19, w20, w21, ?_, ?_, w3⟩
          · rw [fX7_carryOut_L37, if_neg q8, rx, bd6_s, if_neg n10, o2, bd17_s, if_pos (nn64.mpr o1), nI_1]
            exact w1
          · rw [fX8_carryOut_L25, if_neg n10, if_neg iT, rm1, bd7_s, n1, bd2_s, o3, bd1_s, if_pos rfl, o4, bd4_s]
            exact w2
