/-! the pure side, c: the two states held against each other -/
theorem add_toInt {x y : Int32} (h1 : -2147483648 ≤ x.toInt + y.toInt) (h2 : x.toInt + y.toInt < 2147483648) : (x + y).toInt = x.toInt + y.toInt := by
  rw [Int32.toInt_add]
  exact Int.bmod_eq_of_le (by omega) (by omega)
theorem sub_toInt {x y : Int32} (h1 : -2147483648 ≤ x.toInt - y.toInt) (h2 : x.toInt - y.toInt < 2147483648) : (x - y).toInt = x.toInt - y.toInt := by
  rw [Int32.toInt_sub]
  exact Int.bmod_eq_of_le (by omega) (by omega)
theorem neg_toInt {x : Int32} (h1 : -2147483648 < x.toInt) : (-x).toInt = -x.toInt := by
  rw [Int32.toInt_neg]
  have := x.toInt_lt
  exact Int.bmod_eq_of_le (by omega) (by omega)
theorem nneg_nI {x : Int32} (h : 0 ≤ x.toInt) : ∃ k : Nat, x = nI k ∧ (k : Int) = x.toInt ∧ k < 2 ^ 31 := by
  obtain ⟨j, hj, e⟩ := nI_of (x := x) (fun c => by have := Int32.lt_iff_toInt_lt.mp c; have e0 : (0 : Int32).toInt = 0 := rfl; omega)
  exact ⟨j, e, by rw [e, nI_toInt hj], hj⟩
def sumZ (t : Nat → Bool) (a : Nat → Int32) : Nat → Int
  | 0 => 0
  | n + 1 => if t n then sumZ t a n + (a n).toInt else sumZ t a n
theorem sumZ_cong {t u : Nat → Bool} {a b : Nat → Int32} : ∀ (n : Nat), (∀ i, i < n → t i = u i ∧ (t i = true → a i = b i)) → sumZ t a n = sumZ u b n
  | 0, _ => rfl
  | n + 1, h => by
    have e := sumZ_cong n (fun i hi => h i (by omega))
    obtain ⟨h1, h2⟩ := h n (by omega)
    unfold sumZ
    rw [e, ← h1]
    by_cases c : t n = true
    · rw [if_pos c, if_pos c, h2 c]
    · rw [if_neg c, if_neg c]
theorem sum_toInt {t : Nat → Bool} {a : Nat → Int32} : ∀ (n : Nat), n ≤ 15 → (∀ i, i < n → 0 ≤ (a i).toInt ∧ (a i).toInt ≤ 100000000) → (sumI t a n).toInt = sumZ t a n ∧ 0 ≤ sumZ t a n ∧ sumZ t a n ≤ 100000000 * n
  | 0, _, _ => ⟨rfl, Int.le_refl 0, Int.le_refl 0⟩
  | n + 1, hn, h => by
    obtain ⟨h1, h2, h3⟩ := sum_toInt (t := t) (a := a) n (by omega) (fun i hi => h i (by omega))
    have h4 := h n (by omega)
    unfold sumI sumZ
    by_cases c : t n = true
    · rw [if_pos c, if_pos c, add_toInt (by omega) (by omega), h1]
      refine ⟨rfl, by omega, by push_cast; omega⟩
    · rw [if_neg c, if_neg c]
      refine ⟨h1, h2, by push_cast; omega⟩
/-- what is held of a client -/
def hsI (ce : Nat → Int32) (cl : Int32) (R : Nat) : Int32 := sumI (fun j => decide (ce (j * 4 + 1) = cl)) (fun j => ce (j * 4 + 2)) R
def hsZ (ce : Nat → Int32) (cl : Int32) (R : Nat) : Int := sumZ (fun j => decide (ce (j * 4 + 1) = cl)) (fun j => ce (j * 4 + 2)) R
def CLr (C : Nat) (Asz : Int32) (Anu Aba Amo : Nat → Int32) (Aco : Nat → Int64) (st : Nat → Int32) (gr : Nat → Int64) : Prop :=
  (Asz = nI C ∧ st 5 = nI C ∧ C ≤ 12) ∧ ∀ i, i < C → Anu i = st (12 + 3 * i) ∧ Aba i = st (13 + 3 * i) ∧ Amo i = st (14 + 3 * i) ∧ Aco i = gr i
def CIv (C : Nat) (Anu Aba : Nat → Int32) (Aco : Nat → Int64) (dn : Nat) : Prop :=
  (∀ i, i < C → 1 ≤ (Anu i).toInt ∧ (Anu i).toInt ≤ 99 ∧ 0 ≤ (Aba i).toInt ∧ (Aba i).toInt ≤ 1000000000 ∧ 0 ≤ (Aco i).toInt ∧ (Aco i).toInt ≤ 2000000000000 * (dn : Int)) ∧ ∀ i j, i < j → j < C → (Anu i).toInt < (Anu j).toInt
def RWr (R : Nat) (sz la : Int32) (ce : Nat → Int32) (st : Nat → Int32) (ps pl b : Nat) : Prop := (sz = nI R ∧ st ps = nI R ∧ R ≤ 15 ∧ la = st pl) ∧ ∀ j, j < 4 * R → ce j = st (b + j)
def NIv (R : Nat) (la : Int32) (ce : Nat → Int32) (n : Nat) : Prop := (∀ i, i < R → 1 ≤ (ce (i * 4)).toInt ∧ (ce (i * 4)).toInt ≤ la.toInt) ∧ (∀ i j, i < j → j < R → (ce (i * 4)).toInt < (ce (j * 4)).toInt) ∧ 0 ≤ la.toInt ∧ la.toInt ≤ n
def HIv (C : Nat) (Anu Aba : Nat → Int32) (R : Nat) (ce : Nat → Int32) (day : Int32) : Prop := (∀ i, i < R → (∃ c, c < C ∧ ce (i * 4 + 1) = Anu c) ∧ 1 ≤ (ce (i * 4 + 2)).toInt ∧ (ce (i * 4 + 2)).toInt ≤ 100000000 ∧ day.toInt ≤ (ce (i * 4 + 3)).toInt) ∧ ∀ c, c < C → hsZ ce (Anu c) R ≤ (Aba c).toInt
def BIv (C : Nat) (Anu : Nat → Int32) (R : Nat) (ce : Nat → Int32) : Prop := ∀ i, i < R → (∃ c, c < C ∧ ce (i * 4 + 1) = Anu c) ∧ 1 ≤ (ce (i * 4 + 2)).toInt ∧ (ce (i * 4 + 2)).toInt ≤ 100000000
def TRr (E : Nat) (ma lc : Int32) (tc : Nat → Int32) (st : Nat → Int32) : Prop := (ma = nI E ∧ st 10 = nI E ∧ lc = st 11) ∧ ∀ e k, 1 ≤ e → e ≤ E → E < e + 24 → k < 7 → tc (e % 24 * 7 + k) = st (168 + 7 * ((e - 1) % 24) + k)
def EIv (k c s a r : Int32) : Prop := (1 ≤ k.toInt ∧ k.toInt ≤ 6) ∧ (r = 0 ∨ r = 1) ∧ (k.toInt ≤ 3 → 1 ≤ a.toInt ∧ a.toInt ≤ 100000000 ∧ 1 ≤ c.toInt ∧ c.toInt ≤ 99) ∧ (k.toInt ≤ 2 → s = 0) ∧ (k.toInt = 3 → 1 ≤ s.toInt ∧ s.toInt ≤ 99 ∧ ¬ c = s)
def TIv (E : Nat) (tc : Nat → Int32) : Prop := ∀ e, 1 ≤ e → e ≤ E → E < e + 24 → EIv (tc (e % 24 * 7 + 1)) (tc (e % 24 * 7 + 2)) (tc (e % 24 * 7 + 3)) (tc (e % 24 * 7 + 4)) (tc (e % 24 * 7 + 6))
def SCr (dn : Nat) (day lim low hig thr : Int32) (off cre rcp pay : Int64) (st : Nat → Int32) (gr : Nat → Int64) : Prop := (day = nI dn ∧ dn ≤ 9999) ∧ (st 0 = day ∧ st 1 = lim ∧ st 2 = low ∧ st 3 = hig ∧ st 4 = thr) ∧ (gr 12 = off ∧ gr 13 = cre ∧ gr 14 = rcp ∧ gr 15 = pay) ∧ (0 ≤ lim.toInt ∧ lim.toInt ≤ 1000000000) ∧ (0 ≤ low.toInt ∧ low.toInt ≤ 2000) ∧ (0 ≤ hig.toInt ∧ hig.toInt ≤ 2000) ∧ (0 ≤ thr.toInt ∧ thr.toInt ≤ 10000)
/-- one state of the class against one of the reference; n bounds the numbers that were given -/
def RSc (n C R B E dn : Nat) (Asz : Int32) (Anu : Nat → Int32) (Aba : Nat → Int32) (Amo : Nat → Int32) (Aco : Nat → Int64) (Hsz : Int32) (Hla : Int32) (Hce : Nat → Int32) (Bsz : Int32) (Bla : Int32) (Bce : Nat → Int32) (Tma : Int32) (Tlc : Int32) (Ttc : Nat → Int32) (day : Int32) (lim : Int32) (low : Int32) (hig : Int32) (thr : Int32) (off : Int64) (cre : Int64) (rcp : Int64) (pay : Int64) (st : Nat → Int32) (gr : Nat → Int64) : Prop :=
  CLr C Asz Anu Aba Amo Aco st gr ∧ CIv C Anu Aba Aco dn ∧ RWr R Hsz Hla Hce st 6 8 48 ∧ NIv R Hla Hce n ∧ HIv C Anu Aba R Hce day ∧ RWr B Bsz Bla Bce st 7 9 108 ∧ NIv B Bla Bce n ∧ BIv C Anu B Bce ∧ TRr E Tma Tlc Ttc st ∧ TIv E Ttc ∧ E ≤ n ∧ SCr dn day lim low hig thr off cre rcp pay st gr
def RS (n : Nat) (Asz : Int32) (Anu : Nat → Int32) (Aba : Nat → Int32) (Amo : Nat → Int32) (Aco : Nat → Int64) (Hsz : Int32) (Hla : Int32) (Hce : Nat → Int32) (Bsz : Int32) (Bla : Int32) (Bce : Nat → Int32) (Tma : Int32) (Tlc : Int32) (Ttc : Nat → Int32) (day : Int32) (lim : Int32) (low : Int32) (hig : Int32) (thr : Int32) (off : Int64) (cre : Int64) (rcp : Int64) (pay : Int64) (st : Nat → Int32) (gr : Nat → Int64) : Prop :=
  ∃ C R B E dn : Nat, RSc n C R B E dn Asz Anu Aba Amo Aco Hsz Hla Hce Bsz Bla Bce Tma Tlc Ttc day lim low hig thr off cre rcp pay st gr
theorem Anu_inj {C : Nat} {Anu Aba : Nat → Int32} {Aco : Nat → Int64} {dn : Nat} (h : CIv C Anu Aba Aco dn) {i j : Nat} (hi : i < C) (hj : j < C) (e : Anu i = Anu j) : i = j := by
  rcases Nat.lt_trichotomy i j with q | q | q
  · have := h.2 i j q hj; rw [e] at this; omega
  · exact q
  · have := h.2 j i q hi; rw [e] at this; omega
/-- a client is found by both, at one place, or by neither -/
theorem find_both {C : Nat} {Asz : Int32} {Anu Aba Amo : Nat → Int32} {Aco : Nat → Int64} {st : Nat → Int32} {gr : Nat → Int64} {dn : Nat} (hc : CLr C Asz Anu Aba Amo Aco st gr) (hi : CIv C Anu Aba Aco dn) (p : Int32) :
    (∃ c, c < C ∧ Anu c = p ∧ (∀ j, j < C → j ≠ c → ¬ Anu j = p) ∧ fX0_find Asz Anu p = some (nI c) ∧ fX8_find st p = some (nI c)) ∨ ((∀ j, j < C → ¬ Anu j = p) ∧ fX0_find Asz Anu p = some (-1) ∧ fX8_find st p = some (-6)) := by
  obtain ⟨⟨hz, h5, hC⟩, hr⟩ := hc
  by_cases h : ∃ c, c < C ∧ Anu c = p
  · obtain ⟨c, h1, h2⟩ := h
    have hu : ∀ j, j < C → j ≠ c → ¬ Anu j = p := fun j hj hne e => hne (Anu_inj hi hj h1 (e.trans h2.symm))
    refine Or.inl ⟨c, h1, h2, hu, ?_, ?_⟩
    · rw [hz]; exact X0_find_i hC h1 h2 (fun j hj => hu j (by omega) (by omega))
    · exact M_find_i hC h1 h5 (by rw [← (hr c h1).1]; exact h2) (fun j hj hne => by rw [← (hr j hj).1]; exact hu j hj hne)
  · have hn : ∀ j, j < C → ¬ Anu j = p := fun j hj e => h ⟨j, hj, e⟩
    refine Or.inr ⟨hn, ?_, ?_⟩
    · rw [hz]; exact X0_find_n hC hn
    · exact M_find_n hC h5 (fun j hj => by rw [← (hr j hj).1]; exact hn j hj)
theorem held_both {R : Nat} {Hsz Hla : Int32} {Hce st : Nat → Int32} (hr : RWr R Hsz Hla Hce st 6 8 48) {d : Int32} (hd : ∀ i, i < R → d.toInt ≤ (Hce (i * 4 + 3)).toInt) (cl : Int32) : fX4_sumOf Hsz Hce cl 2 = some (hsI Hce cl R) ∧ fX8_heldOn st cl d = some (hsI Hce cl R) := by
  obtain ⟨⟨hz, h6, hR, -⟩, hr⟩ := hr
  refine ⟨?_, ?_⟩
  · rw [hz]; exact X4_sumOf (k := 2) hR (by omega) Hce cl
  · rw [M_heldOn hR h6]
    refine congrArg some (sumI_cong R (fun i hi => ?_))
    have e1 := hr (i * 4 + 1) (by omega)
    have e2 := hr (i * 4 + 2) (by omega)
    have e3 := hr (i * 4 + 3) (by omega)
    rw [show 48 + (i * 4 + 1) = 48 + 4 * i + 1 by omega] at e1
    rw [show 48 + (i * 4 + 2) = 48 + 4 * i + 2 by omega] at e2
    rw [show 48 + (i * 4 + 3) = 48 + 4 * i + 3 by omega] at e3
    have h3 := hd i hi
    rw [← e1, ← e2, ← e3]
    have hn : ¬ Hce (i * 4 + 3) < d := fun c => by have := Int32.lt_iff_toInt_lt.mp c; omega
    simp [hn]
theorem free_both {C R : Nat} {Asz Hsz Hla : Int32} {Anu Aba Amo Hce : Nat → Int32} {Aco : Nat → Int64} {st : Nat → Int32} {gr : Nat → Int64} {day : Int32} (hc : CLr C Asz Anu Aba Amo Aco st gr) (hr : RWr R Hsz Hla Hce st 6 8 48) (hd : ∀ i, i < R → day.toInt ≤ (Hce (i * 4 + 3)).toInt) (h0 : st 0 = day) {c : Nat} (h : c < C) :
    fX5_freeAt Asz Anu Aba Hsz Hce (nI c) = some (Aba c - hsI Hce (Anu c) R) ∧ fX8_free st (nI c) = some (Aba c - hsI Hce (Anu c) R) ∧ fX8_held st (nI c) = some (hsI Hce (Anu c) R) := by
  obtain ⟨⟨hz, h5, hC⟩, hrr⟩ := hc
  obtain ⟨h1, h2⟩ := held_both hr hd (Anu c)
  obtain ⟨g1, g2, -, -⟩ := hrr c h
  have p0 : fX8_part st (nI c) 0 = some (st (12 + 3 * c)) := M_part (c := c) (k := 0) (by omega) st
  have p1 : fX8_part st (nI c) 1 = some (st (13 + 3 * c)) := by
    have := M_part (c := c) (k := 1) (by omega) st
    rw [show 12 + 3 * c + 1 = 13 + 3 * c by omega] at this
    exact this
  have hh : fX8_held st (nI c) = some (hsI Hce (Anu c) R) := by
    unfold fX8_held
    rw [p0, bd1_s, show ckI 0 336 _ = _ from ckI_ok (i := 0) (by omega) (by omega), show (0 : Int32).toNatClampNeg = 0 from rfl, h0, ← g1, h2, bd1_s]
  refine ⟨?_, ?_, hh⟩
  · unfold fX5_freeAt
    rw [hz, X0_balanceAt h hC, bd1_s, X0_numberAt h hC, bd1_s, h1, bd1_s]
  · unfold fX8_free
    rw [p1, bd1_s, hh, bd1_s, g2]
theorem hs_toInt {C R : Nat} {Anu Aba Hce : Nat → Int32} {day : Int32} (hh : HIv C Anu Aba R Hce day) (hR : R ≤ 15) (cl : Int32) : (hsI Hce cl R).toInt = hsZ Hce cl R ∧ 0 ≤ hsZ Hce cl R := by
  have h := sum_toInt (t := fun j => decide (Hce (j * 4 + 1) = cl)) (a := fun j => Hce (j * 4 + 2)) R hR (fun i hi => by have := hh.1 i hi; omega)
  exact ⟨h.1, h.2.1⟩
theorem free_toInt {C R dn : Nat} {Anu Aba Hce : Nat → Int32} {Aco : Nat → Int64} {day : Int32} (hi : CIv C Anu Aba Aco dn) (hh : HIv C Anu Aba R Hce day) (hR : R ≤ 15) {c : Nat} (h : c < C) : (Aba c - hsI Hce (Anu c) R).toInt = (Aba c).toInt - hsZ Hce (Anu c) R ∧ 0 ≤ (Aba c).toInt - hsZ Hce (Anu c) R ∧ 0 ≤ hsZ Hce (Anu c) R := by
  obtain ⟨h1, h2⟩ := hs_toInt hh hR (Anu c)
  have h3 := hh.2 c h
  have h4 := hi.1 c h
  refine ⟨?_, by omega, h2⟩
  rw [sub_toInt (by omega) (by omega), h1]
/-! an entry -/
theorem M_moves {C : Nat} (hC : C ≤ 12) (f s : Int32) : ∀ (n i : Nat) (st : Nat → Int32), st 5 = nI C → i ≤ C → C - i < n → ∃ st', fX8_enters_L181 f s n st (nI i) = some st' ∧ ∀ j, st' j = if 14 ≤ j ∧ (j - 14) % 3 = 0 ∧ i ≤ (j - 14) / 3 ∧ (j - 14) / 3 < C ∧ (st (j - 2) = f ∨ st (j - 2) = s) then st 0 else st j := by
  intro n
  induction n with
  | zero => intro i st h5 h1 h2; omega
  | succ n ih =>
    intro i st h5 h1 h2
    rw [fX8_enters_L181]
    rw [show ckI 5 336 _ = _ from ckI_ok (i := 5) (by omega) (by omega), show (5 : Int32).toNatClampNeg = 5 from rfl, h5]
    by_cases e : i = C
    · subst e
      exact ⟨st, by rw [if_pos (nI_le (by omega) (by omega))], fun j => by rw [if_neg (by omega)]⟩
    · have p0 : fX8_part st (nI i) 0 = some (st (12 + 3 * i)) := M_part (c := i) (k := 0) (by omega) st
      have s2 : fX8_setPart st (nI i) 2 (st 0) = some (upd st (14 + 3 * i) (st 0)) := by
        have := M_setPart (c := i) (k := 2) (by omega) st (st 0)
        rw [show 12 + 3 * i + 2 = 14 + 3 * i by omega] at this
        exact this
      rw [if_neg (nI_ge (by omega) (by omega)), p0, bd1_s, bd1_s, nI_1]
      have ck0 : ∀ {β : Type} (k : Option β), ckI 0 336 k = k := fun k => ckI_ok (i := 0) (by omega) (by omega)
      simp only [ck0, show (0 : Int32).toNatClampNeg = 0 from rfl, s2, bd1_s]
      by_cases c : st (12 + 3 * i) = f ∨ st (12 + 3 * i) = s
      · obtain ⟨st', h3, h4⟩ := ih (i + 1) (upd st (14 + 3 * i) (st 0)) (by rw [upd_n (by omega)]; exact h5) (by omega) (by omega)
        refine ⟨st', ?_, fun j => ?_⟩
        · rcases c with c | c
          · rw [if_pos c]; exact h3
          · by_cases c1 : st (12 + 3 * i) = f
            · rw [if_pos c1]; exact h3
            · rw [if_neg c1, if_pos c]; exact h3
        · rw [h4 j, upd_n (show 0 ≠ 14 + 3 * i by omega)]
          by_cases q : j = 14 + 3 * i
          · subst q
            rw [if_neg (by omega), upd_s, if_pos ⟨by omega, by omega, by omega, by omega, by rw [show 14 + 3 * i - 2 = 12 + 3 * i by omega]; exact c⟩]
          · rw [upd_n q]
            by_cases w : 14 ≤ j ∧ (j - 14) % 3 = 0
            · rw [upd_n (show j - 2 ≠ 14 + 3 * i by omega)]
              by_cases w2 : i ≤ (j - 14) / 3
              · have : i + 1 ≤ (j - 14) / 3 := by omega
                simp only [w2, this]
              · have : ¬ i + 1 ≤ (j - 14) / 3 := by omega
                simp only [w2, this, false_and, and_false]
            · rw [if_neg (fun z => w ⟨z.1, z.2.1⟩), if_neg (fun z => w ⟨z.1, z.2.1⟩)]
      · obtain ⟨st', h3, h4⟩ := ih (i + 1) st h5 (by omega) (by omega)
        refine ⟨st', ?_, fun j => ?_⟩
        · rw [if_neg (fun z => c (Or.inl z)), if_neg (fun z => c (Or.inr z))]; exact h3
        · rw [h4 j]
          by_cases q : j = 14 + 3 * i
          · subst q
            rw [if_neg (by omega), if_neg (fun z => c (by have := z.2.2.2.2; rw [show 14 + 3 * i - 2 = 12 + 3 * i by omega] at this; exact this))]
          · by_cases w : 14 ≤ j ∧ (j - 14) % 3 = 0
            · by_cases w2 : i ≤ (j - 14) / 3
              · have : i + 1 ≤ (j - 14) / 3 := by omega
                simp only [w2, this]
              · have : ¬ i + 1 ≤ (j - 14) / 3 := by omega
                simp only [w2, this, false_and, and_false]
            · rw [if_neg (fun z => w ⟨z.1, z.2.1⟩), if_neg (fun z => w ⟨z.1, z.2.1⟩)]
theorem ent7_sh {f g : Nat → Int32} {b b' j : Nat} {d k c s a h : Int32} (hb : b = 168 + b') (hfg : f (168 + j) = g j) : ent7 f b d k c s a h (168 + j) = ent7 g b' d k c s a h j := by
  have e : ∀ (F G : Nat → Int32) (i : Nat) (v : Int32), F (168 + j) = G j → upd F (b + i) v (168 + j) = upd G (b' + i) v j := by
    intro F G i v h
    by_cases c : j = b' + i
    · rw [show 168 + j = b + i by omega, c, upd_s, upd_s]
    · rw [upd_n (by omega), upd_n c, h]
  exact e _ _ 6 _ (e _ _ 5 _ (e _ _ 4 _ (e _ _ 3 _ (e _ _ 2 _ (e _ _ 1 _ (e _ _ 0 _ hfg))))))
/-- the reference's entry, pointwise -/
theorem M_enters {C E : Nat} (hC : C ≤ 12) (hE : E + 1 < 2 ^ 31) {st : Nat → Int32} (h5 : st 5 = nI C) (h10 : st 10 = nI E) (k f s a : Int32) : ∃ st', fX8_enters st k f s a = some (nI (E + 1), st') ∧ st' 10 = nI (E + 1) ∧ st' 11 = chk (st 11) (st 0) k f s a ∧ (∀ j, j < 10 → st' j = st j) ∧ (∀ j, 48 ≤ j → j < 168 → st' j = st j) ∧ (∀ i, i < 12 → st' (12 + 3 * i) = st (12 + 3 * i) ∧ st' (13 + 3 * i) = st (13 + 3 * i) ∧ st' (14 + 3 * i) = if i < C ∧ (st (12 + 3 * i) = f ∨ st (12 + 3 * i) = s) then st 0 else st (14 + 3 * i)) ∧ (∀ j, j < 168 → st' (168 + j) = ent7 (fun j => st (168 + j)) (7 * (E % 24)) (st 0) k f s a (chk (st 11) (st 0) k f s a) j) := by
  have hm : E % 24 < 24 := Nat.mod_lt _ (by omega)
  obtain ⟨h, eh⟩ : ∃ h, h = chk (st 11) (st 0) k f s a := ⟨_, rfl⟩
  obtain ⟨b, eb⟩ : ∃ b, b = 168 + 7 * (E % 24) := ⟨_, rfl⟩
  obtain ⟨s1, h1, h2⟩ := M_moves hC f s 2147483648 0 (upd (ent7 (upd st 11 h) b (st 0) k f s a h) 10 (nI (E + 1))) (by rw [upd_n (by omega)]; simp only [ent7]; rw [upd_n (by omega), upd_n (by omega), upd_n (by omega), upd_n (by omega), upd_n (by omega), upd_n (by omega), upd_n (by omega), upd_n (by omega)]; exact h5) (Nat.zero_le _) (by omega)
  have hst1 : ∀ j, s1 j = if 14 ≤ j ∧ (j - 14) % 3 = 0 ∧ (j - 14) / 3 < C ∧ (st (j - 2) = f ∨ st (j - 2) = s) then st 0 else (upd (ent7 (upd st 11 h) b (st 0) k f s a h) 10 (nI (E + 1))) j := by
    intro j
    rw [h2 j]
    have e0 : upd (ent7 (upd st 11 h) b (st 0) k f s a h) 10 (nI (E + 1)) 0 = st 0 := by
      rw [upd_n (by omega)]; simp only [ent7]; rw [upd_n (by omega), upd_n (by omega), upd_n (by omega), upd_n (by omega), upd_n (by omega), upd_n (by omega), upd_n (by omega), upd_n (by omega)]
    rw [e0]
    by_cases w : 14 ≤ j ∧ (j - 14) % 3 = 0 ∧ (j - 14) / 3 < C
    · have e2 : upd (ent7 (upd st 11 h) b (st 0) k f s a h) 10 (nI (E + 1)) (j - 2) = st (j - 2) := by
        rw [upd_n (by omega)]; simp only [ent7]; rw [upd_n (by omega), upd_n (by omega), upd_n (by omega), upd_n (by omega), upd_n (by omega), upd_n (by omega), upd_n (by omega), upd_n (by omega)]
      rw [e2]
      simp only [w.1, w.2.1, w.2.2, Nat.zero_le, true_and]
    · rw [if_neg (fun z => w ⟨z.1, z.2.1, z.2.2.2.1⟩), if_neg (fun z => w ⟨z.1, z.2.1, z.2.2.1⟩)]
  have hlow : ∀ j, j < 168 → j ≠ 10 → j ≠ 11 → (upd (ent7 (upd st 11 h) b (st 0) k f s a h) 10 (nI (E + 1))) j = st j := by
    intro j hj n10 n11
    rw [upd_n n10]; simp only [ent7]; rw [upd_n (by omega), upd_n (by omega), upd_n (by omega), upd_n (by omega), upd_n (by omega), upd_n (by omega), upd_n (by omega), upd_n n11]
  refine ⟨s1, ?_, ?_, ?_, ?_, ?_, ?_, ?_⟩
  · have ck : ∀ {β : Type} (i : Nat) (k : Option β), i < 336 → ckI (nI i) 336 k = k := fun i k hi => ckI_ok hi (by omega)
    have c0 : ∀ {β : Type} (k : Option β), ckI 0 336 k = k := fun k => ck 0 k (by omega)
    have c10 : ∀ {β : Type} (k : Option β), ckI 10 336 k = k := fun k => ck 10 k (by omega)
    have c11 : ∀ {β : Type} (k : Option β), ckI 11 336 k = k := fun k => ck 11 k (by omega)
    have z0 : (0 : Int32).toNatClampNeg = 0 := rfl
    have z10 : (10 : Int32).toNatClampNeg = 10 := rfl
    have z11 : (11 : Int32).toNatClampNeg = 11 := rfl
    have x7 : (168 : Int32) + 7 * (nI E - nI E / 24 * 24) = nI b := by
      rw [rem24 (by omega), show (168 : Int32) = nI 168 from rfl, show (7 : Int32) = nI 7 from rfl, pk_mul, nI_add, ← eb]
    have a0 : nI b + 0 = nI (b + 0) := nI_add b 0
    have a1 : nI b + 1 = nI (b + 1) := nI_add b 1
    have a2 : nI b + 2 = nI (b + 2) := nI_add b 2
    have a3 : nI b + 3 = nI (b + 3) := nI_add b 3
    have a4 : nI b + 4 = nI (b + 4) := nI_add b 4
    have a5 : nI b + 5 = nI (b + 5) := nI_add b 5
    have a6 : nI b + 6 = nI (b + 6) := nI_add b 6
    have cl : ∀ i, i < 7 → (nI (b + i)).toNatClampNeg = b + i := fun i hi => nI_clamp (by omega)
    have ckb : ∀ {β : Type} (i : Nat) (k : Option β), i < 7 → ckI (nI (b + i)) 336 k = k := fun i k hi => ck (b + i) k (by omega)
    unfold fX8_enters
    rw [c11, c0, lts, c11, lts, c10, lts]
    rw [z11, z0, z10]
    rw [upd_n (f := st) (k := 11) (j := 10) (by omega), h10, x7]
    rw [c0, a0, ckb 0 _ (by omega), lts, cl 0 (by omega), upd_n (k := 11) (j := 0) (by omega)]
    rw [a1, ckb 1 _ (by omega), lts, cl 1 (by omega), a2, ckb 2 _ (by omega), lts, cl 2 (by omega), a3, ckb 3 _ (by omega), lts, cl 3 (by omega), a4, ckb 4 _ (by omega), lts, cl 4 (by omega)]
    rw [c11, a5, ckb 5 _ (by omega), lts, cl 5 (by omega)]
    rw [upd_n (k := b + 4) (j := 11) (by omega), upd_n (k := b + 3) (j := 11) (by omega), upd_n (k := b + 2) (j := 11) (by omega), upd_n (k := b + 1) (j := 11) (by omega), upd_n (k := b + 0) (j := 11) (by omega), upd_s]
    rw [a6, ckb 6 _ (by omega), lts, cl 6 (by omega), c10, c10, lts]
    change bd1 (fX8_enters_L181 f s 2147483648 (upd (ent7 (upd st 11 (chk (st 11) (st 0) k f s a)) (b + 0) (st 0) k f s a (chk (st 11) (st 0) k f s a)) 10 (ent7 (upd st 11 (chk (st 11) (st 0) k f s a)) (b + 0) (st 0) k f s a (chk (st 11) (st 0) k f s a) 10 + 1)) 0) _ = _
    rw [← eh, Nat.add_zero]
    have e10 : ent7 (upd st 11 h) b (st 0) k f s a h 10 = nI E := by
      simp only [ent7]; rw [upd_n (by omega), upd_n (by omega), upd_n (by omega), upd_n (by omega), upd_n (by omega), upd_n (by omega), upd_n (by omega), upd_n (by omega)]; exact h10
    rw [e10, nI_1, ← nI_0, h1, bd1_s, c10, hst1 10, if_neg (by omega), upd_s]
  · rw [hst1 10, if_neg (by omega), upd_s]
  · rw [hst1 11, if_neg (by omega), upd_n (by omega), ← eh]
    simp only [ent7]; rw [upd_n (by omega), upd_n (by omega), upd_n (by omega), upd_n (by omega), upd_n (by omega), upd_n (by omega), upd_n (by omega), upd_s]
  · intro j hj
    rw [hst1 j, if_neg (by omega), hlow j (by omega) (by omega) (by omega)]
  · intro j hj hj2
    rw [hst1 j, if_neg (by omega), hlow j (by omega) (by omega) (by omega)]
  · intro i hi
    refine ⟨?_, ?_, ?_⟩
    · rw [hst1, if_neg (by omega), hlow _ (by omega) (by omega) (by omega)]
    · rw [hst1, if_neg (by omega), hlow _ (by omega) (by omega) (by omega)]
    · rw [hst1, hlow _ (by omega) (by omega) (by omega), show 14 + 3 * i - 2 = 12 + 3 * i by omega]
      by_cases w : i < C ∧ (st (12 + 3 * i) = f ∨ st (12 + 3 * i) = s)
      · rw [if_pos w, if_pos ⟨by omega, by omega, by omega, w.2⟩]
      · rw [if_neg w, if_neg (fun z => w ⟨by omega, z.2.2.2⟩)]
  · intro j hj
    rw [hst1, if_neg (by omega), upd_n (by omega), ← eh]
    exact ent7_sh eb (upd_n (by omega))
