/-! the pure side, k: reversals -/
theorem nle0 {x : Int32} (h : 1 ≤ x.toInt) : ¬ x ≤ 0 := fun e => by rw [le_i, toInt_0] at e; omega
theorem giver_1 {st : Nat → Int32} {p cl : Int32} (h1 : fX8_entryPart st p 1 = some 1) (h2 : fX8_entryPart st p 2 = some cl) : fX8_giver st p = some cl ∧ fX8_taker st p = some 0 := by
  unfold fX8_giver fX8_taker
  rw [h1, bd1_s, if_pos rfl, h2, bd1_s, bd1_s, if_pos rfl]
  exact ⟨rfl, rfl⟩
theorem giver_2 {st : Nat → Int32} {p cl : Int32} (h1 : fX8_entryPart st p 1 = some 2) (h2 : fX8_entryPart st p 2 = some cl) : fX8_giver st p = some 0 ∧ fX8_taker st p = some cl := by
  unfold fX8_giver fX8_taker
  rw [h1, bd1_s, if_neg (by decide), if_neg (by decide), bd1_s, if_neg (by decide), h2, bd1_s]
  exact ⟨rfl, rfl⟩
theorem giver_3 {st : Nat → Int32} {p cl se : Int32} (h1 : fX8_entryPart st p 1 = some 3) (h2 : fX8_entryPart st p 2 = some cl) (h3 : fX8_entryPart st p 3 = some se) : fX8_giver st p = some se ∧ fX8_taker st p = some cl := by
  unfold fX8_giver fX8_taker
  rw [h1, bd1_s, if_neg (by decide), if_pos rfl, h3, bd1_s, bd1_s, if_neg (by decide), h2, bd1_s]
  exact ⟨rfl, rfl⟩
theorem giver_o {st : Nat → Int32} {p K cl : Int32} (h1 : fX8_entryPart st p 1 = some K) (hK : 3 < K) (h2 : fX8_entryPart st p 2 = some cl) : fX8_giver st p = some 0 ∧ fX8_taker st p = some cl := by
  have e3 : (3 : Int32).toInt = 3 := rfl
  have n1 : ¬ K = 1 := fun e => by rw [e] at hK; exact absurd hK (by decide)
  have n3 : ¬ K = 3 := fun e => by rw [e] at hK; exact absurd hK (by decide)
  unfold fX8_giver fX8_taker
  rw [h1, bd1_s, if_neg n1, if_neg n3, bd1_s, if_neg n1, h2, bd1_s]
  exact ⟨rfl, rfl⟩
theorem op_reverse {n : Nat} {Asz : Int32} {Anu : Nat → Int32} {Aba : Nat → Int32} {Amo : Nat → Int32} {Aco : Nat → Int64} {Hsz : Int32} {Hla : Int32} {Hce : Nat → Int32} {Bsz : Int32} {Bla : Int32} {Bce : Nat → Int32} {Tma : Int32} {Tlc : Int32} {Ttc : Nat → Int32} {day : Int32} {lim : Int32} {low : Int32} {hig : Int32} {thr : Int32} {off : Int64} {cre : Int64} {rcp : Int64} {pay : Int64} {st : Nat → Int32} {gr : Nat → Int64} (h : RS n Asz Anu Aba Amo Aco Hsz Hla Hce Bsz Bla Bce Tma Tlc Ttc day lim low hig thr off cre rcp pay st gr) (hn : n + 1 < 2 ^ 30) {hi hi' : Nat → Int32} {gh gh' : Nat → Int64} {rc rc' : Int32} (hrec : fX8_record st gr hi gh rc = some (hi', gh', rc')) (p1 : Int32) :
    (∃ r : Int32, r < 0 ∧ fX5_reverseEntry Asz Anu Aba Amo Hsz Hce Tma Tlc Ttc day rcp pay p1 = some (r, Aba, Amo, Tma, Tlc, Ttc, rcp, pay) ∧ fX8_reverse st gr hi gh rc p1 = some (r, st, gr, hi, gh, rc)) ∨
    (∃ r Aba' Amo' Tma' Tlc' Ttc' rcp' pay' st' gr', 0 ≤ r ∧ fX5_reverseEntry Asz Anu Aba Amo Hsz Hce Tma Tlc Ttc day rcp pay p1 = some (r, Aba', Amo', Tma', Tlc', Ttc', rcp', pay') ∧ fX8_reverse st gr hi gh rc p1 = some (r, st', gr', hi', gh', rc') ∧ RS (n + 1) Asz Anu Aba' Amo' Aco Hsz Hla Hce Bsz Bla Bce Tma' Tlc' Ttc' day lim low hig thr off cre rcp' pay' st' gr') := by
  obtain ⟨C, R, B, E, dn, h⟩ := h
  have h' := h
  obtain ⟨hc, hI, hr, hrn, hh, hb, hbn, hbi, ht, hv, hE, hs⟩ := h'
  obtain ⟨hz, h5, hC⟩ := hc.1
  have E30 : E < 2 ^ 30 := by omega
  unfold fX5_reverseEntry fX8_reverse fX8_whyNotReversed
  rcases kept_dec E30 ht.1.1 ht.1.2.1 p1 with ⟨e, pe, h1, h2, h3, kx, km⟩ | ⟨kx, km⟩
  · subst pe
    obtain ⟨x1, m1⟩ := ent_both (k := 1) E30 ht h1 h2 h3 (by omega) kx
    obtain ⟨x2, m2⟩ := ent_both (k := 2) E30 ht h1 h2 h3 (by omega) kx
    obtain ⟨x3, m3⟩ := ent_both (k := 3) E30 ht h1 h2 h3 (by omega) kx
    obtain ⟨x4, m4⟩ := ent_both (k := 4) E30 ht h1 h2 h3 (by omega) kx
    obtain ⟨x6, m6⟩ := ent_both (k := 6) E30 ht h1 h2 h3 (by omega) kx
    rw [← lit_1] at x1 m1
    rw [← lit_2] at x2 m2
    rw [← lit_3] at x3 m3
    rw [← lit_4] at x4 m4
    rw [← lit_6] at x6 m6
    have v := hv e h1 h2 h3
    obtain ⟨K, eK⟩ : ∃ x, x = Ttc (e % 24 * 7 + 1) := ⟨_, rfl⟩
    obtain ⟨cl, ecl⟩ : ∃ x, x = Ttc (e % 24 * 7 + 2) := ⟨_, rfl⟩
    obtain ⟨se, ese⟩ : ∃ x, x = Ttc (e % 24 * 7 + 3) := ⟨_, rfl⟩
    obtain ⟨a, ea⟩ : ∃ x, x = Ttc (e % 24 * 7 + 4) := ⟨_, rfl⟩
    obtain ⟨rv, erv⟩ : ∃ x, x = Ttc (e % 24 * 7 + 6) := ⟨_, rfl⟩
    rw [← eK, ← ecl, ← ese, ← ea, ← erv] at v
    rw [← eK] at x1 m1
    rw [← ecl] at x2 m2
    rw [← ese] at x3 m3
    rw [← ea] at x4 m4
    rw [← erv] at x6 m6
    obtain ⟨v1, v2, v3, v4, v5⟩ := v
    have t3 : (3 : Int32).toInt = 3 := rfl
    rw [kx, bd1_s, if_neg n10, km, bd1_s, if_neg n10, x1, bd1_s]
    by_cases q3 : 3 < K
    · obtain ⟨gv, tk⟩ := giver_o m1 q3 m2
      rw [if_pos q3, gv, bd1_s, tk, bd1_s, m1, bd1_s, if_pos q3, bd1_s, if_neg (by decide)]
      exact Or.inl ⟨-3, by decide, rfl, rfl⟩
    · have q3' : K.toInt ≤ 3 := by rw [lt_i, t3] at q3; omega
      obtain ⟨b1, b2, b3, b4⟩ := v3 q3'
      rw [if_neg q3, x6, bd1_s]
      obtain ⟨⟨gv, egv⟩, ⟨tk, etk⟩⟩ : (∃ x, fX8_giver st (nI e) = some x) ∧ (∃ x, fX8_taker st (nI e) = some x) := by
        rcases (by omega : K.toInt = 1 ∨ K.toInt = 2 ∨ K.toInt = 3) with w | w | w
        · rw [show K = 1 from Int32.toInt_inj.mp w] at m1
          exact ⟨⟨_, (giver_1 m1 m2).1⟩, ⟨_, (giver_1 m1 m2).2⟩⟩
        · rw [show K = 2 from Int32.toInt_inj.mp w] at m1
          exact ⟨⟨_, (giver_2 m1 m2).1⟩, ⟨_, (giver_2 m1 m2).2⟩⟩
        · rw [show K = 3 from Int32.toInt_inj.mp w] at m1
          exact ⟨⟨_, (giver_3 m1 m2 m3).1⟩, ⟨_, (giver_3 m1 m2 m3).2⟩⟩
      rcases v2 with q6 | q6
      · rw [q6] at m6
        rw [if_pos q6, x2, bd1_s, x3, bd1_s, egv, bd1_s, etk, bd1_s, m1, bd1_s, if_neg q3, m6, bd1_s, if_neg (show ¬ (0 : Int32) = 1 by decide)]
        rcases (by omega : K.toInt = 1 ∨ K.toInt = 2 ∨ K.toInt = 3) with w | w | w
        · have eK1 : K = 1 := Int32.toInt_inj.mp w
          rw [eK1] at m1
          obtain ⟨gv', tk'⟩ := giver_1 m1 m2
          rw [egv] at gv'; rw [etk] at tk'
          injection gv' with gv'; injection tk' with tk'
          subst gv'; subst tk'
          rw [if_neg (nle0 b3)]
          obtain ⟨r2, y2⟩ : ∃ r, fX0_find Asz Anu se = some r := by
            rcases find_both hc hI se with ⟨d, -, -, -, d4, -⟩ | ⟨-, d4, -⟩ <;> exact ⟨_, d4⟩
          rcases find_both hc hI gv with ⟨c, f1, f2, f3, f4, f5⟩ | ⟨f3, f4, f5⟩
          · obtain ⟨w1, w2, w3, w4, w5, w6, w7⟩ := whyPaid_eq h f1
            rw [f4, bd1_s, y2, bd1_s, if_neg (nI_nl (by omega)), if_neg (show ¬ K = 3 by rw [eK1]; decide), f5, bd1_s, if_neg (nI_nm6 (by omega)), if_pos (show (0 : Int32) ≤ 0 by decide), m4, bd1_s, if_neg (nle0 b3), bd1_s, w2, bd1_s]
            unfold fX5_reverseEntry_J104 fX5_reverseEntry_J116 fX5_reverseEntry_J129
            rw [if_pos eK1, if_pos eK1, x4, bd1_s, if_neg (nI_nl (by omega)), w1, bd1_s]
            by_cases q : a ≤ Aba c - hsI Hce (Anu c) R
            · have q' := le_i.mp q
              have en : (-a).toInt = -a.toInt := neg_toInt (by omega)
              have ev : (Aba c + -a).toInt = (Aba c).toInt - a.toInt := by rw [add_toInt (by omega) (by omega)]; omega
              have k1 := RSc_bal h f1 (Aba c + -a) (by omega) (by omega)
              obtain ⟨A', T1, T2, T3, rcp', pay', st', gr', t1, t2, t3⟩ := rev_tail k1 hn h1 h2 h3 eK.symm ecl.symm ese.symm a hi' gh' rc'
              rw [if_pos q, if_pos q, if_pos rfl, bd1_s, if_pos (show (0 : Int32) ≤ 0 by decide), hrec, bd3_s, bd1_s, bd1_s, bd1_s, if_neg (nle0 b3), f5, bd1_s, M_adds (by omega), bd2_s, ← (hc.2 c f1).2.1]
              unfold fX5_reverseEntry_J161 fX5_reverseEntry_J186 fX8_reverse_J54
              rw [if_pos (show (-1 : Int32) < 0 by decide), hz, X0_add f1 hC, bd1_s, X0_addN, bd1_s, ← hz, if_pos (show (0 : Int32) ≤ 0 by decide), t1, t2]
              exact Or.inr ⟨_, _, _, _, _, _, _, _, _, _, nI_nn (by omega), rfl, rfl, t3⟩
            · rw [if_neg q, if_neg q, bd1_s, if_neg (by decide)]
              exact Or.inl ⟨-3, by decide, rfl, rfl⟩
          · rw [f4, bd1_s, y2, bd1_s, if_pos (by decide), f5, bd1_s, if_pos rfl, bd1_s, if_neg (by decide)]
            exact Or.inl ⟨-3, by decide, rfl, rfl⟩
        · have eK1 : K = 2 := Int32.toInt_inj.mp w
          rw [eK1] at m1
          obtain ⟨gv', tk'⟩ := giver_2 m1 m2
          rw [egv] at gv'; rw [etk] at tk'
          injection gv' with gv'; injection tk' with tk'
          subst gv'; subst tk'
          have ncl : ¬ tk = 0 := fun e => by rw [e, toInt_0] at b3; omega
          rw [if_pos (show (0 : Int32) ≤ 0 by decide), if_neg (nle0 b3)]
          have y2 : fX0_find Asz Anu se = some (-1) := by
            rcases find_both hc hI se with ⟨d, d1, d2, -, -, -⟩ | ⟨-, d4, -⟩
            · have := hI.1 d d1
              rw [d2, v4 (by omega), toInt_0] at this
              omega
            · exact d4
          rcases find_both hc hI tk with ⟨c, f1, f2, f3, f4, f5⟩ | ⟨f3, f4, f5⟩
          · obtain ⟨w1, w2, w3, w4, w5, w6, w7⟩ := whyPaid_eq h f1
            rw [f4, bd1_s, y2, bd1_s, if_neg (nI_nl (by omega)), if_neg (show ¬ K = 3 by rw [eK1]; decide), f5, bd1_s, if_neg (nI_nm6 (by omega)), m4, bd1_s, if_pos (show (0 : Int32) ≤ 0 by decide), if_neg ncl, bd1_s, hasRoom_i (by omega) (hc.2 c f1).2.1.symm, bd1_s]
            unfold fX5_reverseEntry_J104 fX5_reverseEntry_J116 fX5_reverseEntry_J129
            rw [if_neg (show ¬ K = 1 by rw [eK1]; decide), if_neg (show ¬ K = 1 by rw [eK1]; decide), x4, bd1_s, if_pos (show (-1 : Int32) < 0 by decide)]
            unfold fX5_reverseEntry_J161
            rw [if_neg (nI_nl (by omega)), hz, X0_balanceAt f1 hC, bd1_s, ← hz]
            rcases room_dec w7 ⟨b1, b2⟩ with ⟨q2, q3, ew, ex⟩ | ⟨q2, q3⟩
            · have k1 := RSc_bal h f1 (Aba c + a) (by omega) (by omega)
              obtain ⟨A', T1, T2, T3, rcp', pay', st', gr', t1, t2, t3⟩ := rev_tail k1 hn h1 h2 h3 eK.symm ecl.symm ese.symm a hi' gh' rc'
              rw [if_pos q2, if_neg q3, if_neg n10, bd1_s, if_pos (show (0 : Int32) ≤ 0 by decide), hrec, bd3_s, bd1_s, bd1_s, bd1_s, if_pos (show (0 : Int32) ≤ 0 by decide)]
              unfold fX5_reverseEntry_J186 fX8_reverse_J54
              rw [X0_addN, bd1_s, hz, X0_add f1 hC, bd1_s, ← hz, if_neg (nle0 b3), f5, bd1_s, M_adds (by omega), bd2_s, ← (hc.2 c f1).2.1, t1, t2]
              exact Or.inr ⟨_, _, _, _, _, _, _, _, _, _, nI_nn (by omega), rfl, rfl, t3⟩
            · rw [if_neg q2, if_pos q3, if_pos rfl, bd1_s, if_neg (by decide)]
              exact Or.inl ⟨-4, by decide, rfl, rfl⟩
          · rw [f4, bd1_s, y2, bd1_s, if_pos (by decide), f5, bd1_s, if_pos rfl, bd1_s, if_neg (by decide)]
            exact Or.inl ⟨-3, by decide, rfl, rfl⟩
        · have eK1 : K = 3 := Int32.toInt_inj.mp w
          rw [eK1] at m1
          obtain ⟨gv', tk'⟩ := giver_3 m1 m2 m3
          rw [egv] at gv'; rw [etk] at tk'
          injection gv' with gv'; injection tk' with tk'
          subst gv'; subst tk'
          obtain ⟨s1, s2, s3⟩ := v5 w
          have ncl : ¬ tk = 0 := fun e => by rw [e, toInt_0] at b3; omega
          rw [if_neg (nle0 s1), if_neg (nle0 b3)]
          rcases find_both hc hI tk with ⟨c, f1, f2, f3, f4, f5⟩ | ⟨f3, f4, f5⟩
          · rcases find_both hc hI gv with ⟨d, d1, d2, d3, d4, d5⟩ | ⟨d3, d4, d5⟩
            · obtain ⟨w1, w2, w3, w4, w5, w6, w7⟩ := whyPaid_eq h d1
              obtain ⟨u1, u2, u3, u4, u5, u6, u7⟩ := whyPaid_eq h f1
              have ncd : c ≠ d := fun e => s3 (by rw [← f2, ← d2, e])
              rw [f4, bd1_s, d4, bd1_s, if_neg (nI_nl (by omega)), if_pos eK1, if_pos (nI_nn (by omega)), d5, bd1_s, if_neg (nI_nm6 (by omega)), f5, bd1_s, if_neg (nI_nm6 (by omega)), m4, bd1_s, if_neg (nle0 s1), bd1_s, w2, bd1_s]
              unfold fX5_reverseEntry_J104 fX5_reverseEntry_J116 fX5_reverseEntry_J129
              rw [if_neg (show ¬ K = 1 by rw [eK1]; decide), if_neg (show ¬ K = 1 by rw [eK1]; decide), x4, bd1_s, if_neg (nI_nl (by omega)), w1, bd1_s]
              by_cases q : a ≤ Aba d - hsI Hce (Anu d) R
              · have q' := le_i.mp q
                have en : (-a).toInt = -a.toInt := neg_toInt (by omega)
                have ev : (Aba d + -a).toInt = (Aba d).toInt - a.toInt := by rw [add_toInt (by omega) (by omega)]; omega
                have k1 := RSc_bal h d1 (Aba d + -a) (by omega) (by omega)
                unfold fX5_reverseEntry_J161
                rw [if_pos q, if_pos q, if_neg ncl, bd1_s, hasRoom_i (by omega) (hc.2 c f1).2.1.symm, bd1_s, if_neg (nI_nl (by omega)), hz, X0_balanceAt f1 hC, bd1_s, ← hz]
                rcases room_dec u7 ⟨b1, b2⟩ with ⟨q2, q3, ew, ex⟩ | ⟨q2, q3⟩
                · have k2 := RSc_bal k1 f1 (Aba c + a) (by omega) (by omega)
                  obtain ⟨A', T1, T2, T3, rcp', pay', st', gr', t1, t2, t3⟩ := rev_tail k2 hn h1 h2 h3 eK.symm ecl.symm ese.symm a hi' gh' rc'
                  have f5' : fX8_find (upd st (13 + 3 * d) (Aba d + -a)) tk = some (nI c) := M_find_i hC f1 (by rw [upd_n (by omega)]; exact h5) (by rw [upd_n (by omega), ← (hc.2 c f1).1]; exact f2) (fun j hj hne => by rw [upd_n (by omega), ← (hc.2 j hj).1]; exact f3 j hj hne)
                  rw [if_pos q2, if_neg q3, if_neg n10, bd1_s, if_pos (show (0 : Int32) ≤ 0 by decide), hrec, bd3_s, bd1_s, bd1_s, bd1_s, if_neg (nle0 s1), d5, bd1_s, M_adds (by omega), bd2_s, ← (hc.2 d d1).2.1]
                  unfold fX5_reverseEntry_J186 fX8_reverse_J54
                  rw [hz, X0_add d1 hC, bd1_s, X0_add f1 hC, bd1_s, upd_n ncd, ← hz, if_neg (nle0 b3), f5', bd1_s, M_adds (by omega), bd2_s, upd_n (show 13 + 3 * c ≠ 13 + 3 * d by omega), ← (hc.2 c f1).2.1, t1, t2]
                  exact Or.inr ⟨_, _, _, _, _, _, _, _, _, _, nI_nn (by omega), rfl, rfl, t3⟩
                · rw [if_neg q2, if_pos q3, if_pos rfl, bd1_s, if_neg (by decide)]
                  exact Or.inl ⟨-4, by decide, rfl, rfl⟩
              · rw [if_neg q, if_neg q, bd1_s, if_neg (by decide)]
                exact Or.inl ⟨-3, by decide, rfl, rfl⟩
            · rw [f4, bd1_s, d4, bd1_s, if_neg (nI_nl (by omega)), if_pos eK1, if_neg (by decide), d5, bd1_s, if_pos rfl, bd1_s, if_neg (by decide)]
              exact Or.inl ⟨-3, by decide, rfl, rfl⟩
          · obtain ⟨r2, y2⟩ : ∃ r, fX0_find Asz Anu gv = some r := by
              rcases find_both hc hI gv with ⟨d, -, -, -, d4, -⟩ | ⟨-, d4, -⟩ <;> exact ⟨_, d4⟩
            rw [f4, bd1_s, y2, bd1_s, if_pos (by decide)]
            rcases find_both hc hI gv with ⟨d, d1, d2, d3, d4, d5⟩ | ⟨d3, d4, d5⟩
            · rw [d5, bd1_s, if_neg (nI_nm6 (by omega)), f5, bd1_s, if_pos rfl, bd1_s, if_neg (by decide)]
              exact Or.inl ⟨-3, by decide, rfl, rfl⟩
            · rw [d5, bd1_s, if_pos rfl, bd1_s, if_neg (by decide)]
              exact Or.inl ⟨-3, by decide, rfl, rfl⟩
      · rw [q6] at m6
        rw [if_neg (by rw [q6]; decide), egv, bd1_s, etk, bd1_s, m1, bd1_s, if_neg q3, m6, bd1_s, if_pos rfl, bd1_s, if_neg (by decide)]
        exact Or.inl ⟨-3, by decide, rfl, rfl⟩
  · rw [kx, bd1_s, if_pos rfl, km, bd1_s, if_pos rfl, bd1_s, if_neg (by decide)]
    exact Or.inl ⟨-1, by decide, rfl, rfl⟩
