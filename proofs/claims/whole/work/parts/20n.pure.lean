/-! the pure side, n: the history -/
theorem copy_I {src : Nat → Int32} {b : Nat} (hb : b + 336 ≤ 2016) {rc : Int32} (hrc : rc * 336 = nI b) : ∀ (n i : Nat) (hi : Nat → Int32), i ≤ 336 → 336 - i < n → ∃ hi', fX8_record_L81 src rc n hi (nI i) = some hi' ∧ ∀ j, hi' j = if b + i ≤ j ∧ j < b + 336 then src (j - b) else hi j := by
  intro n
  induction n with
  | zero => intro i hi h1 h2; omega
  | succ n ih =>
    intro i hi h1 h2
    rw [fX8_record_L81]
    by_cases e : i = 336
    · subst e
      exact ⟨hi, by rw [if_pos (by decide)], fun j => by rw [if_neg (by omega)]⟩
    · have hk : ¬ (336 : Int32) ≤ nI i := by rw [le_i, nI_toInt (by omega), show (336 : Int32).toInt = 336 from rfl]; omega
      rw [if_neg hk, hrc, nI_add, ckI_ok (by omega) (by omega), ckI_ok (by omega) (by omega), lts, nI_1, nI_clamp (by omega), nI_clamp (by omega)]
      obtain ⟨hi', g1, g2⟩ := ih (i + 1) (upd hi (b + i) (src i)) (by omega) (by omega)
      refine ⟨hi', g1, fun j => ?_⟩
      rw [g2 j]
      by_cases w : j = b + i
      · subst w
        rw [if_neg (by omega), upd_s, if_pos ⟨by omega, by omega⟩, show b + i - b = i by omega]
      · by_cases w2 : b + (i + 1) ≤ j ∧ j < b + 336
        · rw [if_pos w2, if_pos ⟨by omega, by omega⟩]
        · rw [if_neg w2, if_neg (by omega), upd_n w]
theorem copy_L {src : Nat → Int64} {b : Nat} (hb : b + 16 ≤ 96) {rc : Int32} (hrc : rc * 16 = nI b) : ∀ (n i : Nat) (hi : Nat → Int64), i ≤ 16 → 16 - i < n → ∃ hi', fX8_record_L117 src rc n hi (nI i) = some hi' ∧ ∀ j, hi' j = if b + i ≤ j ∧ j < b + 16 then src (j - b) else hi j := by
  intro n
  induction n with
  | zero => intro i hi h1 h2; omega
  | succ n ih =>
    intro i hi h1 h2
    rw [fX8_record_L117]
    by_cases e : i = 16
    · subst e
      exact ⟨hi, by rw [if_pos (by decide)], fun j => by rw [if_neg (by omega)]⟩
    · have hk : ¬ (16 : Int32) ≤ nI i := by rw [le_i, nI_toInt (by omega), show (16 : Int32).toInt = 16 from rfl]; omega
      rw [if_neg hk, hrc, nI_add, ckI_ok (by omega) (by omega), ckI_ok (by omega) (by omega), lts, nI_1, nI_clamp (by omega), nI_clamp (by omega)]
      obtain ⟨hi', g1, g2⟩ := ih (i + 1) (vp_updL hi (b + i) (src i)) (by omega) (by omega)
      refine ⟨hi', g1, fun j => ?_⟩
      rw [g2 j]
      by_cases w : j = b + i
      · subst w
        rw [if_neg (by omega), updL_s, if_pos ⟨by omega, by omega⟩, show b + i - b = i by omega]
      · by_cases w2 : b + (i + 1) ≤ j ∧ j < b + 16
        · rw [if_pos w2, if_pos ⟨by omega, by omega⟩]
        · rw [if_neg w2, if_neg (by omega), updL_n w]
theorem shift_I : ∀ (n i : Nat) (hi : Nat → Int32), i ≤ 1680 → 1680 - i < n → ∃ hi', fX8_record_L11 n hi (nI i) = some hi' ∧ ∀ j, hi' j = if i ≤ j ∧ j < 1680 then hi (j + 336) else hi j := by
  intro n
  induction n with
  | zero => intro i hi h1 h2; omega
  | succ n ih =>
    intro i hi h1 h2
    rw [fX8_record_L11]
    by_cases e : i = 1680
    · subst e
      exact ⟨hi, by rw [if_pos (by decide)], fun j => by rw [if_neg (by omega)]⟩
    · have hk : ¬ (1680 : Int32) ≤ nI i := by rw [le_i, nI_toInt (by omega), show (1680 : Int32).toInt = 1680 from rfl]; omega
      rw [if_neg hk, lit_336, nI_add, ckI_ok (by omega) (by omega), ckI_ok (by omega) (by omega), lts, nI_1, nI_clamp (by omega), nI_clamp (by omega)]
      obtain ⟨hi', g1, g2⟩ := ih (i + 1) (upd hi i (hi (i + 336))) (by omega) (by omega)
      refine ⟨hi', g1, fun j => ?_⟩
      rw [g2 j]
      by_cases w : j = i
      · subst w
        rw [if_neg (by omega), upd_s, if_pos ⟨by omega, by omega⟩]
      · by_cases w2 : i + 1 ≤ j ∧ j < 1680
        · rw [if_pos w2, if_pos ⟨by omega, by omega⟩, upd_n (by omega)]
        · rw [if_neg w2, if_neg (by omega), upd_n w]
theorem shift_L : ∀ (n i : Nat) (hi : Nat → Int64), i ≤ 80 → 80 - i < n → ∃ hi', fX8_record_L42 n hi (nI i) = some hi' ∧ ∀ j, hi' j = if i ≤ j ∧ j < 80 then hi (j + 16) else hi j := by
  intro n
  induction n with
  | zero => intro i hi h1 h2; omega
  | succ n ih =>
    intro i hi h1 h2
    rw [fX8_record_L42]
    by_cases e : i = 80
    · subst e
      exact ⟨hi, by rw [if_pos (by decide)], fun j => by rw [if_neg (by omega)]⟩
    · have hk : ¬ (80 : Int32) ≤ nI i := by rw [le_i, nI_toInt (by omega), show (80 : Int32).toInt = 80 from rfl]; omega
      rw [if_neg hk, lit_16, nI_add, ckI_ok (by omega) (by omega), ckI_ok (by omega) (by omega), lts, nI_1, nI_clamp (by omega), nI_clamp (by omega)]
      obtain ⟨hi', g1, g2⟩ := ih (i + 1) (vp_updL hi i (hi (i + 16))) (by omega) (by omega)
      refine ⟨hi', g1, fun j => ?_⟩
      rw [g2 j]
      by_cases w : j = i
      · subst w
        rw [if_neg (by omega), updL_s, if_pos ⟨by omega, by omega⟩]
      · by_cases w2 : i + 1 ≤ j ∧ j < 80
        · rw [if_pos w2, if_pos ⟨by omega, by omega⟩, updL_n (by omega)]
        · rw [if_neg w2, if_neg (by omega), updL_n w]
theorem record_i {S : Nat} (hS : S ≤ 6) (st : Nat → Int32) (gr : Nat → Int64) (hi : Nat → Int32) (gh : Nat → Int64) : ∃ hi' gh', fX8_record st gr hi gh (nI S) = some (hi', gh', nI (min (S + 1) 6)) ∧ (∀ j, j < 336 → hi' ((min (S + 1) 6 - 1) * 336 + j) = st j) ∧ (∀ j, j < 16 → gh' ((min (S + 1) 6 - 1) * 16 + j) = gr j) ∧ (∀ k j, k + 1 < min (S + 1) 6 → j < 336 → hi' (k * 336 + j) = hi ((if S = 6 then k + 1 else k) * 336 + j)) ∧ (∀ k j, k + 1 < min (S + 1) 6 → j < 16 → gh' (k * 16 + j) = gh ((if S = 6 then k + 1 else k) * 16 + j)) := by
  unfold fX8_record
  by_cases e : S = 6
  · subst e
    obtain ⟨h1, a1, a2⟩ := shift_I 2147483648 0 hi (by omega) (by omega)
    obtain ⟨g1, b1, b2⟩ := shift_L 2147483648 0 gh (by omega) (by omega)
    obtain ⟨h2, c1, c2⟩ := copy_I (src := st) (b := 1680) (by omega) (rc := nI 5) (by decide) 2147483648 0 h1 (by omega) (by omega)
    obtain ⟨g2, d1, d2⟩ := copy_L (src := gr) (b := 80) (by omega) (rc := nI 5) (by decide) 2147483648 0 g1 (by omega) (by omega)
    rw [nI_0] at a1 b1 c1 d1
    refine ⟨h2, g2, ?_, fun j hj => ?_, fun j hj => ?_, fun k j hk hj => ?_, fun k j hk hj => ?_⟩
    · rw [if_pos (show nI 6 = 6 from rfl), a1, bd1_s, b1, bd1_s, lts, show nI 6 - 1 = nI 5 from nI_sub (b := 1) (by omega), c1, bd1_s, d1, bd1_s, lts]; rfl
    · rw [c2, if_pos ⟨by omega, by omega⟩]; exact congrArg st (by omega)
    · rw [d2, if_pos ⟨by omega, by omega⟩]; exact congrArg gr (by omega)
    · rw [c2, if_neg (by omega), a2, if_pos ⟨by omega, by omega⟩, if_pos rfl]; exact congrArg hi (by omega)
    · rw [d2, if_neg (by omega), b2, if_pos ⟨by omega, by omega⟩, if_pos rfl]; exact congrArg gh (by omega)
  · have hm : min (S + 1) 6 = S + 1 := by omega
    rw [hm]
    obtain ⟨h2, c1, c2⟩ := copy_I (src := st) (b := S * 336) (by omega) (rc := nI S) (by rw [lit_336, pk_mul]) 2147483648 0 hi (by omega) (by omega)
    obtain ⟨g2, d1, d2⟩ := copy_L (src := gr) (b := S * 16) (by omega) (rc := nI S) (by rw [lit_16, pk_mul]) 2147483648 0 gh (by omega) (by omega)
    rw [nI_0] at c1 d1
    refine ⟨h2, g2, ?_, fun j hj => ?_, fun j hj => ?_, fun k j hk hj => ?_, fun k j hk hj => ?_⟩
    · rw [if_neg (show ¬ nI S = 6 from fun z => e (nI_inj (a := S) (b := 6) (by omega) (by omega) z)), c1, bd1_s, d1, bd1_s, lts, nI_1]
    · rw [c2, if_pos ⟨by omega, by omega⟩]; exact congrArg st (by omega)
    · rw [d2, if_pos ⟨by omega, by omega⟩]; exact congrArg gr (by omega)
    · rw [c2, if_neg (by omega), if_neg e]
    · rw [d2, if_neg (by omega), if_neg e]
theorem RS_ext {n : Nat} {Asz : Int32} {Anu : Nat → Int32} {Aba : Nat → Int32} {Amo : Nat → Int32} {Aco : Nat → Int64} {Hsz : Int32} {Hla : Int32} {Hce : Nat → Int32} {Bsz : Int32} {Bla : Int32} {Bce : Nat → Int32} {Tma : Int32} {Tlc : Int32} {Ttc : Nat → Int32} {day : Int32} {lim : Int32} {low : Int32} {hig : Int32} {thr : Int32} {off : Int64} {cre : Int64} {rcp : Int64} {pay : Int64} {st st' : Nat → Int32} {gr gr' : Nat → Int64} (h : RS n Asz Anu Aba Amo Aco Hsz Hla Hce Bsz Bla Bce Tma Tlc Ttc day lim low hig thr off cre rcp pay st gr) (e1 : ∀ j, j < 336 → st' j = st j) (e2 : ∀ j, j < 16 → gr' j = gr j) : RS n Asz Anu Aba Amo Aco Hsz Hla Hce Bsz Bla Bce Tma Tlc Ttc day lim low hig thr off cre rcp pay st' gr' := by
  obtain ⟨C, R, B, E, dn, hc, hI, hr, hrn, hh, hb, hbn, hbi, ht, hv, hE, hs⟩ := h
  have hR := hr.1.2.2.1
  have hB := hb.1.2.2.1
  refine ⟨C, R, B, E, dn, CLr_ext hc (e1 _ (by omega)) (fun j _ _ => e1 _ (by omega)) (fun j _ => e2 _ (by omega)), hI, RWr_ext hr (e1 _ (by omega)) (e1 _ (by omega)) (fun j _ => e1 _ (by omega)), hrn, hh, RWr_ext hb (e1 _ (by omega)) (e1 _ (by omega)) (fun j _ => e1 _ (by omega)), hbn, hbi, TRr_ext ht (e1 _ (by omega)) (e1 _ (by omega)) (fun j _ hj => e1 _ hj), hv, hE, ?_⟩
  obtain ⟨q1, q2, q3, q4⟩ := SCr_ext hs (fun j hj => e1 j (by omega))
  refine ⟨q1, q2, ?_, q4⟩
  rw [e2 _ (by omega), e2 _ (by omega), e2 _ (by omega), e2 _ (by omega)]
  exact q3
theorem RS_mono {n m : Nat} {Asz : Int32} {Anu : Nat → Int32} {Aba : Nat → Int32} {Amo : Nat → Int32} {Aco : Nat → Int64} {Hsz : Int32} {Hla : Int32} {Hce : Nat → Int32} {Bsz : Int32} {Bla : Int32} {Bce : Nat → Int32} {Tma : Int32} {Tlc : Int32} {Ttc : Nat → Int32} {day : Int32} {lim : Int32} {low : Int32} {hig : Int32} {thr : Int32} {off : Int64} {cre : Int64} {rcp : Int64} {pay : Int64} {st : Nat → Int32} {gr : Nat → Int64} (h : RS n Asz Anu Aba Amo Aco Hsz Hla Hce Bsz Bla Bce Tma Tlc Ttc day lim low hig thr off cre rcp pay st gr) (hm : n ≤ m) : RS m Asz Anu Aba Amo Aco Hsz Hla Hce Bsz Bla Bce Tma Tlc Ttc day lim low hig thr off cre rcp pay st gr := by
  obtain ⟨C, R, B, E, dn, h⟩ := h
  exact ⟨C, R, B, E, dn, RSc_mono h hm⟩
def RSX (n : Nat) (x : XS) (st : Nat → Int32) (gr : Nat → Int64) : Prop := RS n (x.1) (x.2.1) (x.2.2.1) (x.2.2.2.1) (x.2.2.2.2.1) (x.2.2.2.2.2.1) (x.2.2.2.2.2.2.1) (x.2.2.2.2.2.2.2.1) (x.2.2.2.2.2.2.2.2.1) (x.2.2.2.2.2.2.2.2.2.1) (x.2.2.2.2.2.2.2.2.2.2.1) (x.2.2.2.2.2.2.2.2.2.2.2.1) (x.2.2.2.2.2.2.2.2.2.2.2.2.1) (x.2.2.2.2.2.2.2.2.2.2.2.2.2.1) (x.2.2.2.2.2.2.2.2.2.2.2.2.2.2.1) (x.2.2.2.2.2.2.2.2.2.2.2.2.2.2.2.1) (x.2.2.2.2.2.2.2.2.2.2.2.2.2.2.2.2.1) (x.2.2.2.2.2.2.2.2.2.2.2.2.2.2.2.2.2.1) (x.2.2.2.2.2.2.2.2.2.2.2.2.2.2.2.2.2.2.1) (x.2.2.2.2.2.2.2.2.2.2.2.2.2.2.2.2.2.2.2.1) (x.2.2.2.2.2.2.2.2.2.2.2.2.2.2.2.2.2.2.2.2.1) (x.2.2.2.2.2.2.2.2.2.2.2.2.2.2.2.2.2.2.2.2.2.1) (x.2.2.2.2.2.2.2.2.2.2.2.2.2.2.2.2.2.2.2.2.2.2) st gr
def RH (n : Nat) (sv nx : Int32) (SL : Nat → XS) (hi : Nat → Int32) (gh : Nat → Int64) (rc : Int32) : Prop :=
  ∃ S P : Nat, S ≤ 6 ∧ P < 7 ∧ sv = nI S ∧ rc = nI S ∧ nx = nI P ∧ ∀ j, j < S → RSX n (SL ((P + 6 - j) % 7)) (fun i => hi ((S - 1 - j) * 336 + i)) (fun i => gh ((S - 1 - j) * 16 + i))
theorem RSX_ext {n : Nat} {x : XS} {st st' : Nat → Int32} {gr gr' : Nat → Int64} (h : RSX n x st gr) (e1 : ∀ j, j < 336 → st' j = st j) (e2 : ∀ j, j < 16 → gr' j = gr j) : RSX n x st' gr' := RS_ext h e1 e2
theorem RSX_mono {n m : Nat} {x : XS} {st : Nat → Int32} {gr : Nat → Int64} (h : RSX n x st gr) (hm : n ≤ m) : RSX m x st gr := RS_mono h hm
theorem RH_mono {n m : Nat} {sv nx : Int32} {SL : Nat → XS} {hi : Nat → Int32} {gh : Nat → Int64} {rc : Int32} (h : RH n sv nx SL hi gh rc) (hm : n ≤ m) : RH m sv nx SL hi gh rc := by
  obtain ⟨S, P, h1, h2, h3, h4, h5, h6⟩ := h
  exact ⟨S, P, h1, h2, h3, h4, h5, fun j hj => RSX_mono (h6 j hj) hm⟩
/-- the class prepares a slot -/
theorem prep_i {n : Nat} {Asz : Int32} {Anu : Nat → Int32} {Aba : Nat → Int32} {Amo : Nat → Int32} {Aco : Nat → Int64} {Hsz : Int32} {Hla : Int32} {Hce : Nat → Int32} {Bsz : Int32} {Bla : Int32} {Bce : Nat → Int32} {Tma : Int32} {Tlc : Int32} {Ttc : Nat → Int32} {day : Int32} {lim : Int32} {low : Int32} {hig : Int32} {thr : Int32} {off : Int64} {cre : Int64} {rcp : Int64} {pay : Int64} {sv nx rc : Int32} {SL : Nat → XS} {hi : Nat → Int32} {gh : Nat → Int64} (h : RH n sv nx SL hi gh rc) : ∃ SL', fX1_prepare Asz Anu Aba Amo Aco Hsz Hla Hce Bsz Bla Bce Tma Tlc Ttc day lim low hig thr off cre rcp pay nx SL = some SL' ∧ RH n sv nx SL' hi gh rc ∧ SL' nx.toNatClampNeg = (Asz, Anu, Aba, Amo, Aco, Hsz, Hla, Hce, Bsz, Bla, Bce, Tma, Tlc, Ttc, day, lim, low, hig, thr, off, cre, rcp, pay) := by
  obtain ⟨S, P, h1, h2, h3, h4, h5, h6⟩ := h
  subst h5
  refine ⟨va_up SL (nI P).toNatClampNeg (Asz, Anu, Aba, Amo, Aco, Hsz, Hla, Hce, Bsz, Bla, Bce, Tma, Tlc, Ttc, day, lim, low, hig, thr, off, cre, rcp, pay), ?_, ⟨S, P, h1, h2, h3, h4, rfl, fun j hj => ?_⟩, va_up_self _ _ _⟩
  · unfold fX1_prepare
    rw [ckI_ok (by omega) (by omega)]
  · rw [nI_clamp (by omega), va_up_ne _ _ (by omega)]
    exact h6 j hj
/-- the class keeps the slot, the reference records -/
theorem keep_i {n : Nat} {Asz : Int32} {Anu : Nat → Int32} {Aba : Nat → Int32} {Amo : Nat → Int32} {Aco : Nat → Int64} {Hsz : Int32} {Hla : Int32} {Hce : Nat → Int32} {Bsz : Int32} {Bla : Int32} {Bce : Nat → Int32} {Tma : Int32} {Tlc : Int32} {Ttc : Nat → Int32} {day : Int32} {lim : Int32} {low : Int32} {hig : Int32} {thr : Int32} {off : Int64} {cre : Int64} {rcp : Int64} {pay : Int64} {sv nx rc : Int32} {SL : Nat → XS} {st hi : Nat → Int32} {gr gh : Nat → Int64} (h : RH n sv nx SL hi gh rc) (h2 : SL nx.toNatClampNeg = (Asz, Anu, Aba, Amo, Aco, Hsz, Hla, Hce, Bsz, Bla, Bce, Tma, Tlc, Ttc, day, lim, low, hig, thr, off, cre, rcp, pay)) (hs : RS n Asz Anu Aba Amo Aco Hsz Hla Hce Bsz Bla Bce Tma Tlc Ttc day lim low hig thr off cre rcp pay st gr) : ∃ sv' nx' hi' gh' rc', fX8_record st gr hi gh rc = some (hi', gh', rc') ∧ fX1_keep sv nx = some (sv', nx') ∧ RH n sv' nx' SL hi' gh' rc' := by
  obtain ⟨S, P, h1, hP, h3, h4, h5, h6⟩ := h
  subst h3; subst h4; subst h5
  obtain ⟨hi', gh', r1, r2, r3, r4, r5⟩ := record_i h1 st gr hi gh
  have k : fX1_keep (nI S) (nI P) = some (nI (min (S + 1) 6), nI (if P = 6 then 0 else P + 1)) := by
    have e : (if (6 : Int32) < nI S + 1 then (6 : Int32) else nI S + 1) = nI (min (S + 1) 6) := by
      rw [nI_1]
      by_cases c : S = 6
      · subst c; rfl
      · rw [if_neg (by rw [lt_i, nI_toInt (by omega), show (6 : Int32).toInt = 6 from rfl]; omega), show min (S + 1) 6 = S + 1 by omega]
    unfold fX1_keep
    rw [e]
    by_cases c : P = 6
    · subst c; rw [if_pos (by decide), lts]; rfl
    · rw [if_neg (by rw [le_i, nI_toInt (by omega), show (6 : Int32).toInt = 6 from rfl]; omega), nI_1, lts, lts, if_neg c]
  refine ⟨_, _, hi', gh', _, r1, k, ⟨min (S + 1) 6, if P = 6 then 0 else P + 1, by omega, by split <;> omega, rfl, rfl, rfl, fun j hj => ?_⟩⟩
  have eP : ((if P = 6 then 0 else P + 1) + 6 - j) % 7 = if j = 0 then P else (P + 6 - (j - 1)) % 7 := by
    by_cases c : P = 6 <;> by_cases d : j = 0 <;> simp only [c, d, if_true, if_false] <;> omega
  rw [eP]
  by_cases c : j = 0
  · subst c
    rw [if_pos rfl]
    rw [nI_clamp (by omega)] at h2
    rw [h2]
    exact RSX_ext (x := (Asz, Anu, Aba, Amo, Aco, Hsz, Hla, Hce, Bsz, Bla, Bce, Tma, Tlc, Ttc, day, lim, low, hig, thr, off, cre, rcp, pay)) (st := st) (gr := gr) hs (fun j hj => by rw [Nat.sub_zero]; exact r2 j hj) (fun j hj => by rw [Nat.sub_zero]; exact r3 j hj)
  · rw [if_neg c]
    have eS : (if S = 6 then min (S + 1) 6 - 1 - j + 1 else min (S + 1) 6 - 1 - j) = S - 1 - (j - 1) := by split <;> omega
    refine RSX_ext (h6 (j - 1) (by omega)) (fun i hi => ?_) (fun i hi => ?_)
    · rw [r4 _ _ (by omega) hi, eS]
    · rw [r5 _ _ (by omega) hi, eS]
theorem undo_I {hi : Nat → Int32} {b : Nat} (hb : b + 336 ≤ 2016) {rc : Int32} (hrc : rc * 336 = nI b) : ∀ (n i : Nat) (st : Nat → Int32), i ≤ 336 → 336 - i < n → ∃ st', fX8_undo_L22 hi rc n st (nI i) = some st' ∧ ∀ j, st' j = if i ≤ j ∧ j < 336 then hi (b + j) else st j := by
  intro n
  induction n with
  | zero => intro i st h1 h2; omega
  | succ n ih =>
    intro i st h1 h2
    rw [fX8_undo_L22]
    by_cases e : i = 336
    · subst e
      exact ⟨st, by rw [if_pos (by decide)], fun j => by rw [if_neg (by omega)]⟩
    · have hk : ¬ (336 : Int32) ≤ nI i := by rw [le_i, nI_toInt (by omega), show (336 : Int32).toInt = 336 from rfl]; omega
      rw [if_neg hk, hrc, nI_add, ckI_ok (by omega) (by omega), ckI_ok (by omega) (by omega), lts, nI_1, nI_clamp (by omega), nI_clamp (by omega)]
      obtain ⟨hi', g1, g2⟩ := ih (i + 1) (upd st i (hi (b + i))) (by omega) (by omega)
      refine ⟨hi', g1, fun j => ?_⟩
      rw [g2 j]
      by_cases w : j = i
      · subst w
        rw [if_neg (by omega), upd_s, if_pos ⟨by omega, by omega⟩]
      · by_cases w2 : i + 1 ≤ j ∧ j < 336
        · rw [if_pos w2, if_pos ⟨by omega, by omega⟩]
        · rw [if_neg w2, if_neg (by omega), upd_n w]
theorem undo_L {hi : Nat → Int64} {b : Nat} (hb : b + 16 ≤ 96) {rc : Int32} (hrc : rc * 16 = nI b) : ∀ (n i : Nat) (st : Nat → Int64), i ≤ 16 → 16 - i < n → ∃ st', fX8_undo_L58 hi rc n st (nI i) = some st' ∧ ∀ j, st' j = if i ≤ j ∧ j < 16 then hi (b + j) else st j := by
  intro n
  induction n with
  | zero => intro i st h1 h2; omega
  | succ n ih =>
    intro i st h1 h2
    rw [fX8_undo_L58]
    by_cases e : i = 16
    · subst e
      exact ⟨st, by rw [if_pos (by decide)], fun j => by rw [if_neg (by omega)]⟩
    · have hk : ¬ (16 : Int32) ≤ nI i := by rw [le_i, nI_toInt (by omega), show (16 : Int32).toInt = 16 from rfl]; omega
      rw [if_neg hk, hrc, nI_add, ckI_ok (by omega) (by omega), ckI_ok (by omega) (by omega), lts, nI_1, nI_clamp (by omega), nI_clamp (by omega)]
      obtain ⟨hi', g1, g2⟩ := ih (i + 1) (vp_updL st i (hi (b + i))) (by omega) (by omega)
      refine ⟨hi', g1, fun j => ?_⟩
      rw [g2 j]
      by_cases w : j = i
      · subst w
        rw [if_neg (by omega), updL_s, if_pos ⟨by omega, by omega⟩]
      · by_cases w2 : i + 1 ≤ j ∧ j < 16
        · rw [if_pos w2, if_pos ⟨by omega, by omega⟩]
        · rw [if_neg w2, if_neg (by omega), updL_n w]
theorem op_undo {n : Nat} {Asz : Int32} {Anu : Nat → Int32} {Aba : Nat → Int32} {Amo : Nat → Int32} {Aco : Nat → Int64} {Hsz : Int32} {Hla : Int32} {Hce : Nat → Int32} {Bsz : Int32} {Bla : Int32} {Bce : Nat → Int32} {Tma : Int32} {Tlc : Int32} {Ttc : Nat → Int32} {day : Int32} {lim : Int32} {low : Int32} {hig : Int32} {thr : Int32} {off : Int64} {cre : Int64} {rcp : Int64} {pay : Int64} {sv nx rc : Int32} {SL : Nat → XS} {st hi : Nat → Int32} {gr gh : Nat → Int64} (h : RH n sv nx SL hi gh rc) (hs : RS n Asz Anu Aba Amo Aco Hsz Hla Hce Bsz Bla Bce Tma Tlc Ttc day lim low hig thr off cre rcp pay st gr) : ∃ (r : Int32) (x : XS) (sv' nx' : Int32) (st' : Nat → Int32) (gr' : Nat → Int64) (rc' : Int32), fX7_undo Asz Anu Aba Amo Aco Hsz Hla Hce Bsz Bla Bce Tma Tlc Ttc day lim low hig thr off cre rcp pay sv nx SL = some (r, x.1, x.2.1, x.2.2.1, x.2.2.2.1, x.2.2.2.2.1, x.2.2.2.2.2.1, x.2.2.2.2.2.2.1, x.2.2.2.2.2.2.2.1, x.2.2.2.2.2.2.2.2.1, x.2.2.2.2.2.2.2.2.2.1, x.2.2.2.2.2.2.2.2.2.2.1, x.2.2.2.2.2.2.2.2.2.2.2.1, x.2.2.2.2.2.2.2.2.2.2.2.2.1, x.2.2.2.2.2.2.2.2.2.2.2.2.2.1, x.2.2.2.2.2.2.2.2.2.2.2.2.2.2.1, x.2.2.2.2.2.2.2.2.2.2.2.2.2.2.2.1, x.2.2.2.2.2.2.2.2.2.2.2.2.2.2.2.2.1, x.2.2.2.2.2.2.2.2.2.2.2.2.2.2.2.2.2.1, x.2.2.2.2.2.2.2.2.2.2.2.2.2.2.2.2.2.2.1, x.2.2.2.2.2.2.2.2.2.2.2.2.2.2.2.2.2.2.2.1, x.2.2.2.2.2.2.2.2.2.2.2.2.2.2.2.2.2.2.2.2.1, x.2.2.2.2.2.2.2.2.2.2.2.2.2.2.2.2.2.2.2.2.2.1, x.2.2.2.2.2.2.2.2.2.2.2.2.2.2.2.2.2.2.2.2.2.2, sv', nx') ∧ fX8_undo st gr hi gh rc = some (r, st', gr', rc') ∧ RSX n x st' gr' ∧ RH n sv' nx' SL hi gh rc' := by
  have h0 := h
  obtain ⟨S, P, h1, hP, h3, h4, h5, h6⟩ := h
  subst h3; subst h4; subst h5
  unfold fX7_undo fX8_undo
  by_cases c : S = 0
  · rw [if_pos (show nI S = 0 by rw [c]; rfl), if_pos (show nI S = 0 by rw [c]; rfl)]
    exact ⟨-3, (Asz, Anu, Aba, Amo, Aco, Hsz, Hla, Hce, Bsz, Bla, Bce, Tma, Tlc, Ttc, day, lim, low, hig, thr, off, cre, rcp, pay), nI S, nI P, st, gr, nI S, rfl, rfl, hs, h0⟩
  · have nz : ¬ nI S = 0 := fun z => c (nI_inj (a := S) (b := 0) (by omega) (by omega) z)
    have e1 : nI S - 1 = nI (S - 1) := nI_sub (b := 1) (by omega)
    obtain ⟨s1, a1, a2⟩ := undo_I (hi := hi) (b := (S - 1) * 336) (by omega) (rc := nI (S - 1)) (by rw [lit_336, pk_mul]) 2147483648 0 st (by omega) (by omega)
    obtain ⟨g1, b1, b2⟩ := undo_L (hi := gh) (b := (S - 1) * 16) (by omega) (rc := nI (S - 1)) (by rw [lit_16, pk_mul]) 2147483648 0 gr (by omega) (by omega)
    rw [nI_0] at a1 b1
    have eP : (if (0 : Int32) < nI P then nI P - 1 else 6) = nI ((P + 6) % 7) := by
      by_cases q : P = 0
      · subst q; rfl
      · rw [if_pos (by rw [lt_i, nI_toInt (by omega), toInt_0]; omega), show nI P - 1 = nI (P - 1) from nI_sub (b := 1) (by omega)]
        exact congrArg nI (by omega)
    have hm : (P + 6) % 7 < 7 := Nat.mod_lt _ (by omega)
    refine ⟨nI (S - 1), SL ((P + 6) % 7), nI (S - 1), nI ((P + 6) % 7), s1, g1, nI (S - 1), ?_, ?_, ?_, ⟨S - 1, (P + 6) % 7, by omega, by omega, rfl, rfl, rfl, fun j hj => ?_⟩⟩
    · rw [if_neg nz]
      unfold fX1_restoreLatest
      rw [eP, e1, lts, lts, ckI_ok (by omega) (by omega), nI_clamp (by omega)]
      rfl
    · rw [if_neg nz, e1, lts, a1, bd1_s, b1, bd1_s]
    · have := h6 0 (by omega)
      rw [Nat.sub_zero, Nat.sub_zero] at this
      exact RSX_ext this (fun j hj => by rw [a2 j, if_pos ⟨by omega, hj⟩]) (fun j hj => by rw [b2 j, if_pos ⟨by omega, hj⟩])
    · have := h6 (j + 1) (by omega)
      rw [show S - 1 - (j + 1) = S - 1 - 1 - j by omega, show (P + 6 - (j + 1)) % 7 = ((P + 6) % 7 + 6 - j) % 7 by omega] at this
      exact this
