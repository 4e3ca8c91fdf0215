/-! the pure side, f: rows -/
theorem RWr_append {R : Nat} {sz la : Int32} {ce st : Nat → Int32} {ps pl b : Nat} (h : RWr R sz la ce st ps pl b) (hR : R < 15) (h1 : ps < 12) (h2 : pl < 12) (h3 : ps ≠ pl) (h4 : 12 ≤ b) (a v d : Int32) : RWr (R + 1) (nI (R + 1)) (la + 1) (upd (upd (upd (upd ce (R * 4) (la + 1)) (R * 4 + 1) a) (R * 4 + 2) v) (R * 4 + 3) d) (upd (upd (upd (upd (upd (upd st ps (nI (R + 1))) pl (la + 1)) (b + 4 * R) (la + 1)) (b + 4 * R + 1) a) (b + 4 * R + 2) v) (b + 4 * R + 3) d) ps pl b := by
  refine ⟨⟨rfl, ?_, by omega, ?_⟩, fun j hj => ?_⟩
  · rw [upd_n (by omega), upd_n (by omega), upd_n (by omega), upd_n (by omega), upd_n (by omega), upd_s]
  · rw [upd_n (by omega), upd_n (by omega), upd_n (by omega), upd_n (by omega), upd_s]
  · by_cases c : j < 4 * R
    · rw [upd_n (by omega), upd_n (by omega), upd_n (by omega), upd_n (by omega), upd_n (by omega), upd_n (by omega), upd_n (by omega), upd_n (by omega), upd_n (by omega), upd_n (by omega)]
      exact h.2 j c
    · rcases (by omega : j = 4 * R ∨ j = 4 * R + 1 ∨ j = 4 * R + 2 ∨ j = 4 * R + 3) with e | e | e | e
      · subst e
        rw [upd_n (by omega), upd_n (by omega), upd_n (by omega), show 4 * R = R * 4 by omega, upd_s, upd_n (by omega), upd_n (by omega), upd_n (by omega), upd_s]
      · subst e
        rw [upd_n (by omega), upd_n (by omega), show 4 * R + 1 = R * 4 + 1 by omega, upd_s, upd_n (by omega), upd_n (by omega), show b + (R * 4 + 1) = b + 4 * R + 1 by omega, upd_s]
      · subst e
        rw [upd_n (by omega), show 4 * R + 2 = R * 4 + 2 by omega, upd_s, upd_n (by omega), show b + (R * 4 + 2) = b + 4 * R + 2 by omega, upd_s]
      · subst e
        rw [show 4 * R + 3 = R * 4 + 3 by omega, upd_s, show b + (R * 4 + 3) = b + 4 * R + 3 by omega, upd_s]
/-- the rows with one more -/
def apR (ce : Nat → Int32) (R : Nat) (n a v d : Int32) : Nat → Int32 := upd (upd (upd (upd ce (R * 4) n) (R * 4 + 1) a) (R * 4 + 2) v) (R * 4 + 3) d
theorem apR_o {ce : Nat → Int32} {R i k : Nat} {n a v d : Int32} (hi : i < R) (hk : k < 4) : apR ce R n a v d (i * 4 + k) = ce (i * 4 + k) := by
  unfold apR
  rw [upd_n (by omega), upd_n (by omega), upd_n (by omega), upd_n (by omega)]
theorem apR_0 {ce : Nat → Int32} {R : Nat} {n a v d : Int32} : apR ce R n a v d (R * 4) = n := by
  unfold apR
  rw [upd_n (by omega), upd_n (by omega), upd_n (by omega), upd_s]
theorem apR_1 {ce : Nat → Int32} {R : Nat} {n a v d : Int32} : apR ce R n a v d (R * 4 + 1) = a := by
  unfold apR
  rw [upd_n (by omega), upd_n (by omega), upd_s]
theorem apR_2 {ce : Nat → Int32} {R : Nat} {n a v d : Int32} : apR ce R n a v d (R * 4 + 2) = v := by
  unfold apR
  rw [upd_n (by omega), upd_s]
theorem apR_3 {ce : Nat → Int32} {R : Nat} {n a v d : Int32} : apR ce R n a v d (R * 4 + 3) = d := upd_s _ _ _
theorem NIv_append {R n : Nat} {la : Int32} {ce : Nat → Int32} (h : NIv R la ce n) (hn : n + 1 < 2 ^ 31) (a v d : Int32) : NIv (R + 1) (la + 1) (apR ce R (la + 1) a v d) (n + 1) := by
  obtain ⟨h1, h2, h3, h4⟩ := h
  have e1 : (la + 1).toInt = la.toInt + 1 := by rw [add_toInt (by rw [toInt_1]; omega) (by rw [toInt_1]; omega), toInt_1]
  have o0 : ∀ i, i < R → apR ce R (la + 1) a v d (i * 4) = ce (i * 4) := fun i hi => apR_o (k := 0) hi (by omega)
  refine ⟨fun i hi => ?_, fun i j hij hj => ?_, by omega, by push_cast; omega⟩
  · by_cases c : i = R
    · subst c; rw [apR_0, e1]; omega
    · rw [o0 i (by omega), e1]; have := h1 i (by omega); omega
  · rw [o0 i (by omega)]
    by_cases c : j = R
    · subst c; rw [apR_0, e1]; have := h1 i (by omega); omega
    · rw [o0 j (by omega)]; exact h2 i j hij (by omega)
theorem hsZ_append {ce : Nat → Int32} {R : Nat} {n a v d cl : Int32} : hsZ (apR ce R n a v d) cl (R + 1) = if a = cl then hsZ ce cl R + v.toInt else hsZ ce cl R := by
  unfold hsZ
  rw [sumZ, apR_1, apR_2, sumZ_cong (u := fun j => decide (ce (j * 4 + 1) = cl)) (b := fun j => ce (j * 4 + 2)) R (fun i hi => ⟨by rw [apR_o hi (by omega)], fun _ => apR_o hi (by omega)⟩)]
  simp only [decide_eq_true_eq]
theorem HIv_append {C R : Nat} {Anu Aba ce : Nat → Int32} {day : Int32} (h : HIv C Anu Aba R ce day) {n v d : Int32} {c : Nat} (hc : c < C) (hu : ∀ j, j < C → j ≠ c → ¬ Anu j = Anu c) (hv : 1 ≤ v.toInt ∧ v.toInt ≤ 100000000) (hd : day.toInt ≤ d.toInt) (hf : hsZ ce (Anu c) R + v.toInt ≤ (Aba c).toInt) : HIv C Anu Aba (R + 1) (apR ce R n (Anu c) v d) day := by
  refine ⟨fun i hi => ?_, fun i hi => ?_⟩
  · by_cases e : i = R
    · subst e; rw [apR_1, apR_2, apR_3]; exact ⟨⟨c, hc, rfl⟩, hv.1, hv.2, hd⟩
    · rw [apR_o (by omega) (by omega), apR_o (by omega) (by omega), apR_o (by omega) (by omega)]; exact h.1 i (by omega)
  · rw [hsZ_append]
    by_cases e : Anu c = Anu i
    · rw [if_pos e, ← e]
      by_cases q : i = c
      · subst q; exact hf
      · exact absurd e.symm (hu i hi q)
    · rw [if_neg e]; exact h.2 i hi
theorem BIv_append {C R : Nat} {Anu ce : Nat → Int32} (h : BIv C Anu R ce) {n v d : Int32} {c : Nat} (hc : c < C) (hv : 1 ≤ v.toInt ∧ v.toInt ≤ 100000000) : BIv C Anu (R + 1) (apR ce R n (Anu c) v d) := by
  intro i hi
  by_cases e : i = R
  · subst e; rw [apR_1, apR_2]; exact ⟨⟨c, hc, rfl⟩, hv⟩
  · rw [apR_o (by omega) (by omega), apR_o (by omega) (by omega)]; exact h i (by omega)
/-! a row goes -/
theorem RWr_remove {R g : Nat} {sz la : Int32} {ce ce' st st' : Nat → Int32} {ps pl b : Nat} (h : RWr R sz la ce st ps pl b) (hg : g < R) (e1 : ∀ j, j < (R - 1) * 4 → ce' j = if g * 4 ≤ j then ce (j + 4) else ce j) (e2 : ∀ j, j < 4 * (R - 1) → st' (b + j) = if g * 4 ≤ j then st (b + j + 4) else st (b + j)) (e3 : st' ps = nI (R - 1)) (e4 : st' pl = st pl) : RWr (R - 1) (nI (R - 1)) la ce' st' ps pl b := by
  obtain ⟨⟨h1, h2, h3, h4⟩, h5⟩ := h
  refine ⟨⟨rfl, e3, by omega, h4.trans e4.symm⟩, fun j hj => ?_⟩
  rw [e1 j (by omega), e2 j hj]
  by_cases c : g * 4 ≤ j
  · rw [if_pos c, if_pos c, h5 _ (by omega)]; rfl
  · rw [if_neg c, if_neg c, h5 _ (by omega)]
theorem rm_row {R g i k : Nat} {ce ce' : Nat → Int32} (e1 : ∀ j, j < (R - 1) * 4 → ce' j = if g * 4 ≤ j then ce (j + 4) else ce j) (hi : i < R - 1) (hk : k < 4) : ce' (i * 4 + k) = ce ((if g ≤ i then i + 1 else i) * 4 + k) := by
  rw [e1 _ (by omega)]
  by_cases c : g ≤ i
  · rw [if_pos c, if_pos (by omega), show i * 4 + k + 4 = (i + 1) * 4 + k by omega]
  · rw [if_neg c, if_neg (by omega)]
theorem NIv_remove {R g n : Nat} {la : Int32} {ce ce' : Nat → Int32} (h : NIv R la ce n) (e1 : ∀ j, j < (R - 1) * 4 → ce' j = if g * 4 ≤ j then ce (j + 4) else ce j) : NIv (R - 1) la ce' n := by
  obtain ⟨h1, h2, h3, h4⟩ := h
  have r0 : ∀ i, i < R - 1 → ce' (i * 4) = ce ((if g ≤ i then i + 1 else i) * 4) := fun i hi => rm_row (k := 0) e1 hi (by omega)
  refine ⟨fun i hi => ?_, fun i j hij hj => ?_, h3, h4⟩
  · rw [r0 i hi]; exact h1 _ (by split <;> omega)
  · rw [r0 i (by omega), r0 j hj]; exact h2 _ _ (by split <;> split <;> omega) (by split <;> omega)
theorem sumZ_remove {t u : Nat → Bool} {a b : Nat → Int32} {g R : Nat} (h : ∀ i, i < R - 1 → u i = t (if g ≤ i then i + 1 else i) ∧ b i = a (if g ≤ i then i + 1 else i)) (hp : ∀ i, i < R → 0 ≤ (a i).toInt) (hg : g < R) : ∀ m, m ≤ R - 1 → (m ≤ g → sumZ u b m = sumZ t a m) ∧ (g ≤ m → sumZ u b m + (if t g then (a g).toInt else 0) = sumZ t a (m + 1))
  | 0, _ => by
    refine ⟨fun _ => rfl, fun h0 => ?_⟩
    have : g = 0 := by omega
    subst this
    show (0 : Int) + _ = if t 0 then (0 : Int) + (a 0).toInt else 0
    split <;> omega
  | m + 1, hm => by
    obtain ⟨i1, i2⟩ := sumZ_remove h hp hg m (by omega)
    obtain ⟨q1, q2⟩ := h m (by omega)
    refine ⟨fun h0 => ?_, fun h0 => ?_⟩
    · rw [if_neg (by omega)] at q1 q2
      rw [sumZ, sumZ, i1 (by omega), q1, q2]
    · by_cases c : g ≤ m
      · rw [if_pos c] at q1 q2
        have := i2 c
        rw [sumZ, show sumZ t a (m + 1 + 1) = if t (m + 1) then sumZ t a (m + 1) + (a (m + 1)).toInt else sumZ t a (m + 1) from rfl, ← this, q1, q2]
        split <;> omega
      · have e : g = m + 1 := by omega
        rw [if_neg c] at q1 q2
        rw [sumZ, q1, q2, i1 (by omega), show sumZ t a (m + 1 + 1) = if t (m + 1) then sumZ t a (m + 1) + (a (m + 1)).toInt else sumZ t a (m + 1) from rfl, e]
        show (if t m then sumZ t a m + (a m).toInt else sumZ t a m) + _ = if t (m + 1) then sumZ t a (m + 1) + (a (m + 1)).toInt else sumZ t a (m + 1)
        rw [sumZ]
        split <;> split <;> omega
theorem hsZ_remove {R g : Nat} {ce ce' : Nat → Int32} (e1 : ∀ j, j < (R - 1) * 4 → ce' j = if g * 4 ≤ j then ce (j + 4) else ce j) (hg : g < R) (hp : ∀ i, i < R → 0 ≤ (ce (i * 4 + 2)).toInt) (cl : Int32) : hsZ ce' cl (R - 1) + (if ce (g * 4 + 1) = cl then (ce (g * 4 + 2)).toInt else 0) = hsZ ce cl R := by
  have := (sumZ_remove (t := fun j => decide (ce (j * 4 + 1) = cl)) (u := fun j => decide (ce' (j * 4 + 1) = cl)) (a := fun j => ce (j * 4 + 2)) (b := fun j => ce' (j * 4 + 2)) (g := g) (R := R) (fun i hi => ⟨by rw [rm_row e1 hi (by omega)], by rw [rm_row e1 hi (by omega)]⟩) hp hg (R - 1) (Nat.le_refl _)).2 (by omega)
  rw [show R - 1 + 1 = R by omega] at this
  simp only [decide_eq_true_eq] at this
  exact this
theorem HIv_remove {C R g : Nat} {Anu Aba ce ce' : Nat → Int32} {day : Int32} (h : HIv C Anu Aba R ce day) (hg : g < R) (e1 : ∀ j, j < (R - 1) * 4 → ce' j = if g * 4 ≤ j then ce (j + 4) else ce j) : HIv C Anu Aba (R - 1) ce' day := by
  refine ⟨fun i hi => ?_, fun c hc => ?_⟩
  · rw [rm_row e1 hi (by omega), rm_row e1 hi (by omega), rm_row e1 hi (by omega)]
    exact h.1 _ (by split <;> omega)
  · have := hsZ_remove e1 hg (fun i hi => by have := h.1 i hi; omega) (Anu c)
    have g1 := h.2 c hc
    have g2 := h.1 g hg
    split at this <;> omega
theorem BIv_remove {C R g : Nat} {Anu ce ce' : Nat → Int32} (h : BIv C Anu R ce) (e1 : ∀ j, j < (R - 1) * 4 → ce' j = if g * 4 ≤ j then ce (j + 4) else ce j) : BIv C Anu (R - 1) ce' := by
  intro i hi
  rw [rm_row e1 hi (by omega), rm_row e1 hi (by omega)]
  exact h _ (by split <;> omega)
