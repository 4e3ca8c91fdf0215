/-! the pure side, j: an entry is reversed -/
theorem kept_dec {E : Nat} (hE : E < 2 ^ 30) {ma : Int32} (hma : ma = nI E) {st : Nat → Int32} (h10 : st 10 = nI E) (p : Int32) : (∃ e, p = nI e ∧ 1 ≤ e ∧ e ≤ E ∧ E < e + 24 ∧ fX6_keeps ma p = some 1 ∧ fX8_isEntry st p = some 1) ∨ (fX6_keeps ma p = some 0 ∧ fX8_isEntry st p = some 0) := by
  rw [hma, keeps_i hE, isEntry_i hE h10]
  by_cases c : 1 ≤ p.toInt ∧ p.toInt ≤ E ∧ (E : Int) < p.toInt + 24
  · obtain ⟨e, e1, e2, e3⟩ := nneg_nI (x := p) (by omega)
    exact Or.inl ⟨e, e1, by omega, by omega, by omega, by rw [if_pos c], by rw [if_pos c]⟩
  · exact Or.inr ⟨by rw [if_neg c], by rw [if_neg c]⟩
theorem ent_both {E e k : Nat} (hE : E < 2 ^ 30) {ma lc : Int32} {tc st : Nat → Int32} (h : TRr E ma lc tc st) (h1 : 1 ≤ e) (h2 : e ≤ E) (h3 : E < e + 24) (hk : k < 7) (hkp : fX6_keeps ma (nI e) = some 1) : fX6_get ma tc (nI e) (nI k) = some (tc (e % 24 * 7 + k)) ∧ fX8_entryPart st (nI e) (nI k) = some (tc (e % 24 * 7 + k)) := by
  obtain ⟨⟨t1, t2, t3⟩, tr⟩ := h
  refine ⟨?_, ?_⟩
  · rw [t1] at hkp ⊢
    exact X6_get h1 h2 h3 hE hk tc hkp
  · rw [M_entryPart h1 (by omega) hk, tr e k h1 h2 h3 hk]
theorem RSc_mark {n C R B E dn e : Nat} {Asz : Int32} {Anu : Nat → Int32} {Aba : Nat → Int32} {Amo : Nat → Int32} {Aco : Nat → Int64} {Hsz : Int32} {Hla : Int32} {Hce : Nat → Int32} {Bsz : Int32} {Bla : Int32} {Bce : Nat → Int32} {Tma : Int32} {Tlc : Int32} {Ttc : Nat → Int32} {day : Int32} {lim : Int32} {low : Int32} {hig : Int32} {thr : Int32} {off : Int64} {cre : Int64} {rcp : Int64} {pay : Int64} {st : Nat → Int32} {gr : Nat → Int64} (h : RSc n C R B E dn Asz Anu Aba Amo Aco Hsz Hla Hce Bsz Bla Bce Tma Tlc Ttc day lim low hig thr off cre rcp pay st gr) (h1 : 1 ≤ e) (h2 : e ≤ E) (h3 : E < e + 24) : RSc n C R B E dn Asz Anu Aba Amo Aco Hsz Hla Hce Bsz Bla Bce Tma Tlc (upd Ttc (e % 24 * 7 + 6) 1) day lim low hig thr off cre rcp pay (upd st (168 + 7 * ((e - 1) % 24) + 6) 1) gr := by
  obtain ⟨hc, hi, hr, hrn, hh, hb, hbn, hbi, ht, hv, hE, hs⟩ := h
  have hR := hr.1.2.2.1
  have hB := hb.1.2.2.1
  refine ⟨CLr_ext hc (upd_n (by omega)) (fun j _ _ => upd_n (by omega)) (fun _ _ => rfl), hi, RWr_ext hr (upd_n (by omega)) (upd_n (by omega)) (fun j hj => upd_n (by omega)), hrn, hh, RWr_ext hb (upd_n (by omega)) (upd_n (by omega)) (fun j hj => upd_n (by omega)), hbn, hbi, ⟨⟨ht.1.1, by rw [upd_n (by omega)]; exact ht.1.2.1, by rw [upd_n (by omega)]; exact ht.1.2.2⟩, fun f k g1 g2 g3 hk => ?_⟩, fun f g1 g2 g3 => ?_, hE, SCr_ext hs (fun j hj => upd_n (by omega))⟩
  · by_cases q : f = e
    · subst q
      by_cases w : k = 6
      · subst w; rw [upd_s, upd_s]
      · rw [upd_n (by omega), upd_n (by omega)]; exact ht.2 f k g1 g2 g3 hk
    · rw [upd_n (by omega), upd_n (by omega)]; exact ht.2 f k g1 g2 g3 hk
  · have g := hv f g1 g2 g3
    rw [upd_n (show f % 24 * 7 + 1 ≠ e % 24 * 7 + 6 by omega), upd_n (show f % 24 * 7 + 2 ≠ e % 24 * 7 + 6 by omega), upd_n (show f % 24 * 7 + 3 ≠ e % 24 * 7 + 6 by omega), upd_n (show f % 24 * 7 + 4 ≠ e % 24 * 7 + 6 by omega)]
    by_cases q : f = e
    · subst q
      rw [upd_s]
      exact ⟨g.1, Or.inr rfl, g.2.2⟩
    · rw [upd_n (by omega)]; exact g
theorem sub64_0 (x : Int64) : x - 0 = x := by
  have := Int64.sub_zero x
  exact this
/-- the last steps of a reversal -/
theorem rev_tail {n C R B E dn e : Nat} {Asz : Int32} {Anu : Nat → Int32} {Aba : Nat → Int32} {Amo : Nat → Int32} {Aco : Nat → Int64} {Hsz : Int32} {Hla : Int32} {Hce : Nat → Int32} {Bsz : Int32} {Bla : Int32} {Bce : Nat → Int32} {Tma : Int32} {Tlc : Int32} {Ttc : Nat → Int32} {day : Int32} {lim : Int32} {low : Int32} {hig : Int32} {thr : Int32} {off : Int64} {cre : Int64} {rcp : Int64} {pay : Int64} {st : Nat → Int32} {gr : Nat → Int64} (h : RSc n C R B E dn Asz Anu Aba Amo Aco Hsz Hla Hce Bsz Bla Bce Tma Tlc Ttc day lim low hig thr off cre rcp pay st gr) (hn : n + 1 < 2 ^ 30) (h1 : 1 ≤ e) (h2 : e ≤ E) (h3 : E < e + 24) {K cl se : Int32} (hK : Ttc (e % 24 * 7 + 1) = K) (hcl : Ttc (e % 24 * 7 + 2) = cl) (hse : Ttc (e % 24 * 7 + 3) = se) (a : Int32) (hi : Nat → Int32) (gh : Nat → Int64) (rc : Int32) :
    ∃ Amo' T1 T2 T3 rcp' pay' st' gr',
      (if K = 1 then
        lt_ (rcp - a.toInt64) fun rcp_40 =>
        fX5_reverseEntry_J246 Asz Anu Aba Amo Hsz Hce Tma Tlc Ttc day rcp_40 pay (nI e) cl se a
      else
        if K = 2 then
          lt_ (pay - a.toInt64) fun pay_39 =>
          fX5_reverseEntry_J246 Asz Anu Aba Amo Hsz Hce Tma Tlc Ttc day rcp pay_39 (nI e) cl se a
        else
          fX5_reverseEntry_J246 Asz Anu Aba Amo Hsz Hce Tma Tlc Ttc day rcp pay (nI e) cl se a) = some (nI (E + 1), Aba, Amo', T1, T2, T3, rcp', pay') ∧
      fX8_reverse_J72 st gr hi gh rc (nI e) a = some (nI (E + 1), st', gr', hi, gh, rc) ∧ RS (n + 1) Asz Anu Aba Amo' Aco Hsz Hla Hce Bsz Bla Bce T1 T2 T3 day lim low hig thr off cre rcp' pay' st' gr' := by
  obtain ⟨rcp', er⟩ : ∃ x, x = if K = 1 then rcp - a.toInt64 else rcp := ⟨_, rfl⟩
  obtain ⟨pay', ep⟩ : ∃ x, x = if K = 2 then pay - a.toInt64 else pay := ⟨_, rfl⟩
  obtain ⟨g2, eg⟩ : ∃ x, x = vp_updL (vp_updL gr 14 rcp') 15 pay' := ⟨_, rfl⟩
  have h0 := h
  obtain ⟨hc, hI, hr, hrn, hh, hb, hbn, hbi, ht, hv, hE, hs⟩ := h0
  have E30 : E < 2 ^ 30 := by omega
  have hkp : fX6_keeps Tma (nI e) = some 1 := by
    rw [ht.1.1, keeps_i E30, if_pos]
    have := nI_toInt (n := e) (by omega)
    omega
  have k0 : RSc n C R B E dn Asz Anu Aba Amo Aco Hsz Hla Hce Bsz Bla Bce Tma Tlc Ttc day lim low hig thr off cre rcp' pay' st g2 := by
    refine ⟨CLr_ext hc rfl (fun _ _ _ => rfl) (fun j hj => by rw [eg, updL_n (by omega), updL_n (by omega)]), hI, hr, hrn, hh, hb, hbn, hbi, ht, hv, hE, hs.1, hs.2.1, ?_, hs.2.2.2⟩
    obtain ⟨s1, s2, s3, s4⟩ := hs.2.2.1
    refine ⟨?_, ?_, ?_, ?_⟩
    · rw [eg, updL_n (by omega), updL_n (by omega)]; exact s1
    · rw [eg, updL_n (by omega), updL_n (by omega)]; exact s2
    · rw [eg, updL_n (by omega), updL_s]
    · rw [eg, updL_s]
  have k1 := RSc_mark k0 h1 h2 h3
  obtain ⟨A', T1, T2, T3, st', e1, e2, e3, e4⟩ := RSc_enter k1 (by omega) (k := 6) (f := cl) (s := se) (a := a) ⟨by decide, Or.inl rfl, fun e => absurd e (by decide), fun e => absurd e (by decide), fun e => absurd e (by decide)⟩
  have x0 : ∀ rc py : Int64, fX5_reverseEntry_J246 Asz Anu Aba Amo Hsz Hce Tma Tlc Ttc day rc py (nI e) cl se a = some (nI (E + 1), Aba, A', T1, T2, T3, rc, py) := by
    intro rc py
    have ms : fX6_set Ttc (nI e) 6 1 = _ := X6_set (e := e) (k := 6) (by omega) (by omega) Ttc 1
    unfold fX5_reverseEntry_J246 fX6_markReversed
    rw [hkp, bd1_s, if_neg n10, ms, bd1_s, bd1_s, e1, bd4_s, e3]
  refine ⟨A', T1, T2, T3, rcp', pay', st', g2, ?_, ?_, ⟨C, R, B, E + 1, dn, e4⟩⟩
  · rw [er, ep]
    by_cases c1 : K = 1
    · rw [if_pos c1, if_pos c1, lts, x0, if_neg (by rw [c1]; decide)]
    · rw [if_neg c1, if_neg c1]
      by_cases c2 : K = 2
      · rw [if_pos c2, if_pos c2, lts, x0]
      · rw [if_neg c2, if_neg c2, x0]
  · have ep1 : fX8_entryPart st (nI e) 1 = some K := by
      have := (ent_both (k := 1) E30 ht h1 h2 h3 (by omega) hkp).2
      rw [hK] at this; exact this
    have k14 : ∀ {β : Type} (k : Option β), ckI 14 16 k = k := fun k => ckI_ok (i := 14) (by omega) (by omega)
    have k15 : ∀ {β : Type} (k : Option β), ckI 15 16 k = k := fun k => ckI_ok (i := 15) (by omega) (by omega)
    have z14 : (14 : Int32).toNatClampNeg = 14 := rfl
    have z15 : (15 : Int32).toNatClampNeg = 15 := rfl
    obtain ⟨s1, s2, s3, s4⟩ := hs.2.2.1
    have q1 : fX8_reverse_J72 st gr hi gh rc (nI e) a = fX8_reverse_J97 st gr hi gh rc (nI e) a (if K = 1 then a.toInt64 else 0) (gr 14) 14 := by
      unfold fX8_reverse_J72
      rw [k14, ep1, bd1_s, z14]
      by_cases c : K = 1
      · rw [if_pos c, if_pos c]
      · rw [if_neg c, if_neg c]
    have q1' : (gr 14) - (if K = 1 then a.toInt64 else 0) = rcp' := by
      rw [er, s3]
      by_cases c : K = 1
      · rw [if_pos c, if_pos c]
      · rw [if_neg c, if_neg c, sub64_0]
    have q2' : (vp_updL gr 14 rcp' 15) - (if K = 2 then a.toInt64 else 0) = pay' := by
      rw [ep, updL_n (by omega), s4]
      by_cases c : K = 2
      · rw [if_pos c, if_pos c]
      · rw [if_neg c, if_neg c, sub64_0]
    have q2 : fX8_reverse_J72 st gr hi gh rc (nI e) a = fX8_reverse_J124 st (vp_updL gr 14 rcp') hi gh rc (nI e) a (if K = 2 then a.toInt64 else 0) (vp_updL gr 14 rcp' 15) 15 := by
      rw [q1]
      unfold fX8_reverse_J97
      rw [k14, lts, z14, q1', k15, ep1, bd1_s, z15]
      by_cases c : K = 2
      · rw [if_pos c, if_pos c]
      · rw [if_neg c, if_neg c]
    have x7 : ((168 : Int32) + 7 * (nI e - 1 - (nI e - 1) / 24 * 24)) + 6 = nI (168 + 7 * ((e - 1) % 24) + 6) := by
      rw [show nI e - 1 = nI (e - 1) from nI_sub (b := 1) h1, rem24 (by omega), show (168 : Int32) = nI 168 from rfl, show (7 : Int32) = nI 7 from rfl, show (6 : Int32) = nI 6 from rfl, pk_mul, nI_add, nI_add]
    have ht1 := k1.2.2.2.2.2.2.2.2.1
    have m2 : fX8_entryPart (upd st (168 + 7 * ((e - 1) % 24) + 6) 1) (nI e) 2 = some cl := by
      have := (ent_both (k := 2) E30 ht1 h1 h2 h3 (by omega) hkp).2
      rw [upd_n (by omega), hcl] at this; exact this
    have m3 : fX8_entryPart (upd st (168 + 7 * ((e - 1) % 24) + 6) 1) (nI e) 3 = some se := by
      have := (ent_both (k := 3) E30 ht1 h1 h2 h3 (by omega) hkp).2
      rw [upd_n (by omega), hse] at this; exact this
    rw [q2]
    unfold fX8_reverse_J124
    have hm : (e - 1) % 24 < 24 := Nat.mod_lt _ (by omega)
    rw [k15, lts, z15, q2', ← eg, x7, ckI_ok (by omega) (by omega), lts, nI_clamp (by omega), m2, bd1_s, m3, bd1_s, e2, bd2_s]
