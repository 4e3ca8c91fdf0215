/-! the pure side, d: an entry on both sides -/
theorem ent7_at {f : Nat → Int32} {b j : Nat} {d k c s a h : Int32} (hj : j < 7) : ent7 f b d k c s a h (b + j) = ent7 (fun _ => 0) 0 d k c s a h j := by
  unfold ent7
  rcases (by omega : j = 0 ∨ j = 1 ∨ j = 2 ∨ j = 3 ∨ j = 4 ∨ j = 5 ∨ j = 6) with e | e | e | e | e | e | e <;> subst e <;> simp (disch := omega) only [upd_s, upd_n, Nat.zero_add, ne_eq]
theorem ent7_n {f : Nat → Int32} {b j : Nat} {d k c s a h : Int32} (hj : j < b ∨ b + 7 ≤ j) : ent7 f b d k c s a h j = f j := by
  unfold ent7
  rw [upd_n (by omega), upd_n (by omega), upd_n (by omega), upd_n (by omega), upd_n (by omega), upd_n (by omega), upd_n (by omega)]
theorem X_move1 {C : Nat} {Asz : Int32} {Anu Aba Amo : Nat → Int32} {Aco : Nat → Int64} {st : Nat → Int32} {gr : Nat → Int64} {dn : Nat} (hc : CLr C Asz Anu Aba Amo Aco st gr) (hi : CIv C Anu Aba Aco dn) (f day : Int32) : ∃ r, fX0_find Asz Anu f = some r ∧ ∀ A : Nat → Int32, ∃ A', fX0_move Asz A r day = some A' ∧ ∀ i, i < C → A' i = if Anu i = f then day else A i := by
  obtain ⟨hz, h5, hC⟩ := hc.1
  rcases find_both hc hi f with ⟨c, h1, h2, h3, h4, -⟩ | ⟨h3, h4, -⟩
  · refine ⟨nI c, h4, fun A => ⟨upd A c day, by rw [hz]; exact X0_move h1 hC A day, fun i hi => ?_⟩⟩
    by_cases e : i = c
    · subst e; rw [upd_s, if_pos h2]
    · rw [upd_n e, if_neg (h3 i hi e)]
  · exact ⟨-1, h4, fun A => ⟨A, X0_moveN _ _ _, fun i hi => by rw [if_neg (h3 i hi)]⟩⟩
theorem enter_both {C E dn : Nat} {Asz : Int32} {Anu Aba Amo : Nat → Int32} {Aco : Nat → Int64} {Tma Tlc : Int32} {Ttc : Nat → Int32} {day : Int32} {st : Nat → Int32} {gr : Nat → Int64} (hc : CLr C Asz Anu Aba Amo Aco st gr) (hi : CIv C Anu Aba Aco dn) (ht : TRr E Tma Tlc Ttc st) (hv : TIv E Ttc) (hE : E + 1 < 2 ^ 31) (h0 : st 0 = day) {k f s a : Int32} (he : EIv k f s a 0) :
    ∃ Amo' Tma' Tlc' Ttc' st', fX5_enter Asz Anu Amo Tma Tlc Ttc day k f s a = some (Amo', Tma', Tlc', Ttc') ∧ fX8_enters st k f s a = some (nI (E + 1), st') ∧ Tma' = nI (E + 1) ∧ CLr C Asz Anu Aba Amo' Aco st' gr ∧ TRr (E + 1) Tma' Tlc' Ttc' st' ∧ TIv (E + 1) Ttc' ∧ (∀ j, j < 10 → st' j = st j) ∧ (∀ j, 48 ≤ j → j < 168 → st' j = st j) := by
  have hc0 := hc
  obtain ⟨⟨hz, h5, hC⟩, hr⟩ := hc
  obtain ⟨⟨t1, t2, t3⟩, tr⟩ := ht
  obtain ⟨st', m1, m2, m3, m4, m5, m6, m7⟩ := M_enters (C := C) (E := E) hC hE h5 t2 k f s a
  obtain ⟨r1, x1, x2⟩ := X_move1 hc0 hi f day
  obtain ⟨r2, y1, y2⟩ := X_move1 hc0 hi s day
  obtain ⟨A1, x3, x4⟩ := x2 Amo
  obtain ⟨A2, y3, y4⟩ := y2 A1
  have hx : fX5_enter Asz Anu Amo Tma Tlc Ttc day k f s a = some (A2, nI (E + 1), chk Tlc day k f s a, ent7 Ttc ((E + 1) % 24 * 7) day k f s a (chk Tlc day k f s a)) := by
    unfold fX5_enter
    rw [t1, X6_append hE, bd3_s, x1, bd1_s, x3, bd1_s, y1, bd1_s, y3, bd1_s]
  have hold : ∀ e j, 1 ≤ e → e ≤ E → E + 1 < e + 24 → j < 7 → ent7 Ttc ((E + 1) % 24 * 7) day k f s a (chk Tlc day k f s a) (e % 24 * 7 + j) = Ttc (e % 24 * 7 + j) := by
    intro e j h1 h2 h3 h4
    exact ent7_n (by omega)
  have hnew : ∀ j, j < 7 → ent7 Ttc ((E + 1) % 24 * 7) day k f s a (chk Tlc day k f s a) ((E + 1) % 24 * 7 + j) = ent7 (fun _ => 0) 0 day k f s a (chk Tlc day k f s a) j := fun j hj => ent7_at hj
  refine ⟨A2, _, _, _, st', hx, m1, rfl, ⟨⟨hz, by rw [m4 5 (by omega)]; exact h5, hC⟩, fun i hi => ?_⟩, ⟨⟨rfl, m2, by rw [m3, t3, h0]⟩, fun e j h1 h2 h3 h4 => ?_⟩, fun e h1 h2 h3 => ?_, m4, m5⟩
  · obtain ⟨g1, g2, g3, g4⟩ := hr i hi
    obtain ⟨q1, q2, q3⟩ := m6 i (by omega)
    refine ⟨by rw [q1]; exact g1, by rw [q2]; exact g2, ?_, g4⟩
    rw [q3, y4 i hi, x4 i hi, ← g1, ← g3, h0]
    by_cases c1 : Anu i = s
    · rw [if_pos c1, if_pos ⟨hi, Or.inr c1⟩]
    · rw [if_neg c1]
      by_cases c2 : Anu i = f
      · rw [if_pos c2, if_pos ⟨hi, Or.inl c2⟩]
      · rw [if_neg c2, if_neg (fun z => z.2.elim c2 c1)]
  · by_cases q : e = E + 1
    · subst q
      rw [hnew j h4, Nat.add_sub_cancel, Nat.add_assoc, m7 _ (by omega), ent7_at h4, ← t3, h0]
    · rw [hold e j h1 (by omega) (by omega) h4, tr e j h1 (by omega) (by omega) h4, Nat.add_assoc, m7 _ (by omega), ent7_n (by omega)]
  · by_cases q : e = E + 1
    · subst q
      rw [hnew 1 (by omega), hnew 2 (by omega), hnew 3 (by omega), hnew 4 (by omega), hnew 6 (by omega)]
      exact he
    · rw [hold e 1 h1 (by omega) (by omega) (by omega), hold e 2 h1 (by omega) (by omega) (by omega), hold e 3 h1 (by omega) (by omega) (by omega), hold e 4 h1 (by omega) (by omega) (by omega), hold e 6 h1 (by omega) (by omega) (by omega)]
      exact hv e h1 (by omega) (by omega)
theorem RWr_ext {R : Nat} {sz la : Int32} {ce st st' : Nat → Int32} {ps pl b : Nat} (h : RWr R sz la ce st ps pl b) (e1 : st' ps = st ps) (e2 : st' pl = st pl) (e3 : ∀ j, j < 4 * R → st' (b + j) = st (b + j)) : RWr R sz la ce st' ps pl b :=
  ⟨⟨h.1.1, e1.trans h.1.2.1, h.1.2.2.1, h.1.2.2.2.trans e2.symm⟩, fun j hj => (h.2 j hj).trans (e3 j hj).symm⟩
theorem TRr_ext {E : Nat} {ma lc : Int32} {tc st st' : Nat → Int32} (h : TRr E ma lc tc st) (e1 : st' 10 = st 10) (e2 : st' 11 = st 11) (e3 : ∀ j, 168 ≤ j → j < 336 → st' j = st j) : TRr E ma lc tc st' :=
  ⟨⟨h.1.1, e1.trans h.1.2.1, h.1.2.2.trans e2.symm⟩, fun e k h1 h2 h3 h4 => (h.2 e k h1 h2 h3 h4).trans (e3 _ (by omega) (by omega)).symm⟩
theorem SCr_ext {dn : Nat} {day lim low hig thr : Int32} {off cre rcp pay : Int64} {st st' : Nat → Int32} {gr : Nat → Int64} (h : SCr dn day lim low hig thr off cre rcp pay st gr) (e : ∀ j, j < 5 → st' j = st j) : SCr dn day lim low hig thr off cre rcp pay st' gr := by
  obtain ⟨h1, ⟨a0, a1, a2, a3, a4⟩, h3⟩ := h
  exact ⟨h1, ⟨(e 0 (by omega)).trans a0, (e 1 (by omega)).trans a1, (e 2 (by omega)).trans a2, (e 3 (by omega)).trans a3, (e 4 (by omega)).trans a4⟩, h3⟩
theorem CLr_ext {C : Nat} {Asz : Int32} {Anu Aba Amo : Nat → Int32} {Aco : Nat → Int64} {st st' : Nat → Int32} {gr gr' : Nat → Int64} (h : CLr C Asz Anu Aba Amo Aco st gr) (e1 : st' 5 = st 5) (e2 : ∀ j, 12 ≤ j → j < 48 → st' j = st j) (e3 : ∀ j, j < 12 → gr' j = gr j) : CLr C Asz Anu Aba Amo Aco st' gr' := by
  obtain ⟨⟨hz, h5, hC⟩, hr⟩ := h
  refine ⟨⟨hz, e1.trans h5, hC⟩, fun i hi => ?_⟩
  rw [e2 _ (by omega) (by omega), e2 _ (by omega) (by omega), e2 _ (by omega) (by omega), e3 i (by omega)]
  exact hr i hi
/-- one balance changes -/
theorem CLr_bal {C c : Nat} {Asz : Int32} {Anu Aba Amo : Nat → Int32} {Aco : Nat → Int64} {st : Nat → Int32} {gr : Nat → Int64} (h : CLr C Asz Anu Aba Amo Aco st gr) (hc : c < C) (v : Int32) : CLr C Asz Anu (upd Aba c v) Amo Aco (upd st (13 + 3 * c) v) gr := by
  obtain ⟨⟨hz, h5, hC⟩, hr⟩ := h
  refine ⟨⟨hz, by rw [upd_n (by omega)]; exact h5, hC⟩, fun i hi => ?_⟩
  obtain ⟨g1, g2, g3, g4⟩ := hr i hi
  rw [upd_n (show 12 + 3 * i ≠ 13 + 3 * c by omega), upd_n (show 14 + 3 * i ≠ 13 + 3 * c by omega)]
  refine ⟨g1, ?_, g3, g4⟩
  by_cases e : i = c
  · subst e; rw [upd_s, upd_s]
  · rw [upd_n e, upd_n (by omega)]; exact g2
theorem CIv_bal {C c dn : Nat} {Anu Aba : Nat → Int32} {Aco : Nat → Int64} (h : CIv C Anu Aba Aco dn) (v : Int32) (h1 : 0 ≤ v.toInt) (h2 : v.toInt ≤ 1000000000) : CIv C Anu (upd Aba c v) Aco dn := by
  refine ⟨fun i hi => ?_, h.2⟩
  have g := h.1 i hi
  by_cases e : i = c
  · subst e; rw [upd_s]; omega
  · rw [upd_n e]; exact g
theorem HIv_bal {C c R : Nat} {Anu Aba ce : Nat → Int32} {day : Int32} (h : HIv C Anu Aba R ce day) (v : Int32) (h1 : hsZ ce (Anu c) R ≤ v.toInt) : HIv C Anu (upd Aba c v) R ce day := by
  refine ⟨h.1, fun i hi => ?_⟩
  by_cases e : i = c
  · subst e; rw [upd_s]; exact h1
  · rw [upd_n e]; exact h.2 i hi
