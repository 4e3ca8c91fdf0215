/-! the book of the law's own, and the class beside it -/
def pq (qq : Nat → Int32) (c : Nat) : Bool := decide (0 ≤ (qq (10 + c)).toInt)
def pw (hh : Nat → Int32) (k : Nat) : Bool := decide (0 < (hh (3 * k)).toInt)
def hI (hh : Nat → Int32) (c : Nat) : Int32 := sumI (fun k => decide (hh (3 * k) = nI c)) (fun k => hh (3 * k + 1)) 20
def hz (hh : Nat → Int32) (c : Nat) : Int := sumZ (fun k => decide (hh (3 * k) = nI c)) (fun k => hh (3 * k + 1)) 20
def cI (hh : Nat → Int32) (c : Nat) : Int32 := sumI (fun k => decide (hh (3 * k) = nI c)) (fun _ => 1) 20
def CLB (Asz : Int32) (Anu Aba Amo : Nat → Int32) (mm : Nat → Int64) (qq : Nat → Int32) : Prop :=
  Asz = nI (rk (pq qq) 7) ∧ pq qq 0 = false ∧ pq qq 6 = false ∧ ∀ c, c < 7 → pq qq c = true → Anu (rk (pq qq) c) = nI c ∧ (Aba (rk (pq qq) c)).toInt64 = mm c ∧ Amo (rk (pq qq) c) = qq (10 + c)
def CTB (Aco : Nat → Int64) (mm : Nat → Int64) (qq : Nat → Int32) : Prop := ∀ c, c < 7 → pq qq c = true → Aco (rk (pq qq) c) = mm (10 + c)
def CIB (dn : Nat) (mm : Nat → Int64) (qq : Nat → Int32) : Prop := ∀ c, c < 7 → pq qq c = true → 0 ≤ (mm c).toInt ∧ (mm c).toInt ≤ 1000000000 ∧ 0 ≤ (mm (10 + c)).toInt ∧ (mm (10 + c)).toInt ≤ 2000000000000 * (dn : Int)
def RWB (sz la : Int32) (ce hh : Nat → Int32) (top : Nat) : Prop :=
  sz = nI (rk (pw hh) 20) ∧ rk (pw hh) 20 ≤ 15 ∧ la = nI top ∧ top ≤ 20 ∧ ∀ k, k < 20 → pw hh k = true → k < top ∧ ce (rk (pw hh) k * 4) = nI (k + 1) ∧ ce (rk (pw hh) k * 4 + 1) = hh (3 * k) ∧ ce (rk (pw hh) k * 4 + 2) = hh (3 * k + 1) ∧ ce (rk (pw hh) k * 4 + 3) = hh (3 * k + 2)
def RIB (hh qq : Nat → Int32) : Prop := ∀ k, k < 20 → 0 ≤ (hh (3 * k)).toInt ∧ (0 ≤ (hh (3 * k + 1)).toInt ∧ (hh (3 * k + 1)).toInt ≤ 100000000) ∧ (pw hh k = true → 1 ≤ (hh (3 * k + 1)).toInt ∧ ∃ c, c < 7 ∧ pq qq c = true ∧ hh (3 * k) = nI c)
def HIB (dn : Nat) (hh : Nat → Int32) (mm : Nat → Int64) (qq : Nat → Int32) : Prop := (∀ k, k < 20 → pw hh k = true → (dn : Int) ≤ (hh (3 * k + 2)).toInt) ∧ ∀ c, c < 7 → pq qq c = true → hz hh c ≤ (mm c).toInt
def EIB (k c s a : Int32) : Prop := (1 ≤ k.toInt ∧ k.toInt ≤ 6) ∧ (∃ cc, 1 ≤ cc ∧ cc < 6 ∧ c = nI cc) ∧ (k.toInt ≤ 3 → 1 ≤ a.toInt ∧ a.toInt ≤ 100000000) ∧ (k.toInt ≤ 2 → s = 0) ∧ (k.toInt = 3 → ∃ cs, 1 ≤ cs ∧ cs < 6 ∧ s = nI cs ∧ ¬ s = c)
def TRB (E : Nat) (Tma Tlc : Int32) (Ttc : Nat → Int32) (mm : Nat → Int64) (qq ee : Nat → Int32) : Prop :=
  Tma = nI E ∧ qq 5 = nI E ∧ mm 24 = Tlc.toInt64 ∧ (0 ≤ Tlc.toInt ∧ Tlc.toInt ≤ 1000002) ∧ (∀ n k, 1 ≤ n → n ≤ E → E < n + 10 → k < 6 → Ttc (n % 24 * 7 + k) = ee (6 * (n % 10) + k)) ∧ (1 ≤ E → Ttc (E % 24 * 7 + 6) = 0 ∧ EIB (ee (6 * (E % 10) + 1)) (ee (6 * (E % 10) + 2)) (ee (6 * (E % 10) + 3)) (ee (6 * (E % 10) + 4)))
def SCB (dn t1 t2 : Nat) (day lim low hig thr : Int32) (off cre rcp pay : Int64) (mm : Nat → Int64) (qq : Nat → Int32) : Prop :=
  (day = nI dn ∧ qq 0 = nI dn ∧ qq 6 = nI t1 ∧ qq 7 = nI t2) ∧ (qq 1 = lim ∧ qq 2 = low ∧ qq 3 = hig ∧ qq 4 = thr) ∧ (mm 20 = off ∧ mm 21 = cre ∧ mm 22 = rcp ∧ mm 23 = pay) ∧ ((0 ≤ lim.toInt ∧ lim.toInt ≤ 1000000000) ∧ (0 ≤ low.toInt ∧ low.toInt ≤ 2000) ∧ (0 ≤ hig.toInt ∧ hig.toInt ≤ 2000) ∧ (0 ≤ thr.toInt ∧ thr.toInt ≤ 10000)) ∧ sumC (pq qq) mm 7 + mm 20 + mm 23 = mm 21 + mm 22
def PRc (E dn t1 t2 : Nat) (Asz : Int32) (Anu : Nat → Int32) (Aba : Nat → Int32) (Amo : Nat → Int32) (Aco : Nat → Int64) (Hsz : Int32) (Hla : Int32) (Hce : Nat → Int32) (Bsz : Int32) (Bla : Int32) (Bce : Nat → Int32) (Tma : Int32) (Tlc : Int32) (Ttc : Nat → Int32) (day : Int32) (lim : Int32) (low : Int32) (hig : Int32) (thr : Int32) (off : Int64) (cre : Int64) (rcp : Int64) (pay : Int64) (ee : Nat → Int32) (mm : Nat → Int64) (qq : Nat → Int32) (hh : Nat → Int32) (bb : Nat → Int32) : Prop :=
  CLB Asz Anu Aba Amo mm qq ∧ CTB Aco mm qq ∧ CIB dn mm qq ∧ RWB Hsz Hla Hce hh t1 ∧ RIB hh qq ∧ HIB dn hh mm qq ∧ RWB Bsz Bla Bce bb t2 ∧ RIB bb qq ∧ TRB E Tma Tlc Ttc mm qq ee ∧ SCB dn t1 t2 day lim low hig thr off cre rcp pay mm qq
section CB
variable {Asz : Int32} {Anu Aba Amo : Nat → Int32} {Aco : Nat → Int64} {mm : Nat → Int64} {qq : Nat → Int32}
theorem rk7 (P : Nat → Bool) : rk P 7 ≤ 12 := Nat.le_trans (rk_bd P 7) (by decide)
theorem pq_ne (h : CLB Asz Anu Aba Amo mm qq) {c : Nat} (hc : c < 7) (hp : pq qq c = true) : 1 ≤ c ∧ c < 6 := by
  obtain ⟨-, h0, h6, -⟩ := h
  refine ⟨?_, ?_⟩
  · rcases Nat.eq_zero_or_pos c with e | e
    · subst e; rw [h0] at hp; cases hp
    · exact e
  · by_cases e : c = 6
    · subst e; rw [h6] at hp; cases hp
    · omega
theorem cl_find (h : CLB Asz Anu Aba Amo mm qq) {c : Nat} (hc : c < 7) (hp : pq qq c = true) : fX0_find Asz Anu (nI c) = some (nI (rk (pq qq) c)) := by
  obtain ⟨hz, -, -, hr⟩ := h
  rw [hz]
  refine X0_find_i (rk7 _) (rk_lt hp hc) (hr c hc hp).1 (fun j hj e => ?_)
  obtain ⟨k, h1, h2, h3⟩ := rk_surj hj
  have e2 := (hr k (by omega) h2).1
  rw [h3, e] at e2
  have := nI_inj (by omega) (by omega) e2
  omega
theorem cl_findn (h : CLB Asz Anu Aba Amo mm qq) {c : Nat} (hc : c < 7) (hp : pq qq c = false) : fX0_find Asz Anu (nI c) = some (-1) := by
  obtain ⟨hz, -, -, hr⟩ := h
  rw [hz]
  refine X0_find_n (rk7 _) (fun j hj e => ?_)
  obtain ⟨k, h1, h2, h3⟩ := rk_surj hj
  have e2 := (hr k h1 h2).1
  rw [h3, e] at e2
  have := nI_inj (by omega) (by omega) e2
  subst this
  rw [hp] at h2
  cases h2
theorem cl_bal (h : CLB Asz Anu Aba Amo mm qq) {c : Nat} (hc : c < 7) (hp : pq qq c = true) : Aba (rk (pq qq) c) = (mm c).toInt32 ∧ (Aba (rk (pq qq) c)).toInt = (mm c).toInt := by
  have e := (h.2.2.2 c hc hp).2.1
  refine ⟨?_, by rw [← e, up64]⟩
  rw [← e, Int32.toInt32_toInt64]
theorem cl_move (h : CLB Asz Anu Aba Amo mm qq) {c : Nat} (hc : c < 7) (day : Int32) : ∃ r, fX0_find Asz Anu (nI c) = some r ∧ ∀ A : Nat → Int32, ∃ A', fX0_move Asz A r day = some A' ∧ ∀ k, k < 7 → pq qq k = true → A' (rk (pq qq) k) = if k = c then day else A (rk (pq qq) k) := by
  cases hp : pq qq c with
  | true =>
    refine ⟨_, cl_find h hc hp, fun A => ⟨upd A (rk (pq qq) c) day, by rw [h.1]; exact X0_move (rk_lt hp hc) (rk7 _) A day, fun k hk hpk => ?_⟩⟩
    by_cases e : k = c
    · subst e; rw [upd_s, if_pos rfl]
    · rw [upd_n (fun z => e (rk_inj hpk hp z)), if_neg e]
  | false =>
    refine ⟨-1, cl_findn h hc hp, fun A => ⟨A, X0_moveN _ _ _, fun k hk hpk => ?_⟩⟩
    rw [if_neg (fun e => by subst e; rw [hp] at hpk; cases hpk)]
/-- a balance is changed on both sides -/
theorem cl_upd (h : CLB Asz Anu Aba Amo mm qq) {c : Nat} (hc : c < 7) (hp : pq qq c = true) (v : Int32) : CLB Asz Anu (upd Aba (rk (pq qq) c) v) Amo (vp_updL mm c v.toInt64) qq := by
  refine ⟨h.1, h.2.1, h.2.2.1, fun k hk hpk => ?_⟩
  obtain ⟨h1, h2, h3⟩ := h.2.2.2 k hk hpk
  refine ⟨h1, ?_, h3⟩
  by_cases e : k = c
  · subst e; rw [upd_s, updL_s]
  · rw [upd_n (fun z => e (rk_inj hpk hp z)), updL_n e]; exact h2
theorem CLB_ext {mm' : Nat → Int64} (h : CLB Asz Anu Aba Amo mm qq) (e : ∀ c, c < 7 → mm' c = mm c) : CLB Asz Anu Aba Amo mm' qq := ⟨h.1, h.2.1, h.2.2.1, fun c hc hp => by rw [e c hc]; exact h.2.2.2 c hc hp⟩
theorem CTB_ext {mm' : Nat → Int64} (h : CTB Aco mm qq) (e : ∀ c, c < 7 → mm' (10 + c) = mm (10 + c)) : CTB Aco mm' qq := fun c hc hp => by rw [e c hc]; exact h c hc hp
theorem CIB_ext {dn : Nat} {mm' : Nat → Int64} (h : CIB dn mm qq) (e : ∀ c, c < 7 → mm' c = mm c ∧ mm' (10 + c) = mm (10 + c)) : CIB dn mm' qq := fun c hc hp => by rw [(e c hc).1, (e c hc).2]; exact h c hc hp
theorem CIB_upd {dn : Nat} (h : CIB dn mm qq) {c : Nat} (hc : c < 7) {v : Int64} (h1 : 0 ≤ v.toInt ∧ v.toInt ≤ 1000000000) : CIB dn (vp_updL mm c v) qq := fun k hk hp => by
  have g := h k hk hp
  rw [updL_n (f := mm) (k := c) (j := 10 + k) (by omega)]
  by_cases e : k = c
  · subst e; rw [updL_s]; exact ⟨h1.1, h1.2, g.2.2⟩
  · rw [updL_n e]; exact g
theorem pq_cong {qq' : Nat → Int32} (e : ∀ j, 10 ≤ j → qq' j = qq j) : pq qq' = pq qq := funext fun c => by unfold pq; rw [e _ (by omega)]
theorem CLB_qq {qq' : Nat → Int32} (h : CLB Asz Anu Aba Amo mm qq) (e : ∀ j, 10 ≤ j → qq' j = qq j) : CLB Asz Anu Aba Amo mm qq' := by
  have p := pq_cong e
  unfold CLB
  rw [p]
  exact ⟨h.1, h.2.1, h.2.2.1, fun c hc hp => by rw [e _ (by omega)]; exact h.2.2.2 c hc hp⟩
end CB
/-! rows -/
section RB
variable {sz la : Int32} {ce hh : Nat → Int32} {top : Nat} {qq : Nat → Int32}
theorem pw_t {k : Nat} (h : pw hh k = true) : 0 < (hh (3 * k)).toInt := of_decide_eq_true h
theorem pw_f {k : Nat} (h : pw hh k = false) : ¬ 0 < (hh (3 * k)).toInt := of_decide_eq_false h
theorem pw_0 (hi : RIB hh qq) {k : Nat} (hk : k < 20) (h : pw hh k = false) : hh (3 * k) = 0 := by
  have h1 := pw_f h
  have h2 := (hi k hk).1
  exact Int32.toInt_inj.mp (by rw [toInt_0]; omega)
theorem slt_ne {k c : Nat} (h : pw hh k = false) (hc : 1 ≤ c) (hc2 : c < 2 ^ 31) : decide (hh (3 * k) = nI c) = false := by
  refine decide_eq_false fun e => pw_f h ?_
  rw [e, nI_toInt hc2]
  omega
theorem rw_sum (h : RWB sz la ce hh top) {c q : Nat} (hc : 1 ≤ c) (hc2 : c < 2 ^ 31) {b : Nat → Int32} (hb : ∀ k, k < 20 → pw hh k = true → ce (rk (pw hh) k * 4 + q) = b k) : sumI (fun j => decide (ce (j * 4 + 1) = nI c)) (fun j => ce (j * 4 + q)) (rk (pw hh) 20) = sumI (fun k => decide (hh (3 * k) = nI c)) b 20 := by
  refine sum_rk 20 (fun k hk hp => ⟨?_, fun _ => hb k hk hp⟩) (fun k _ hp => slt_ne hp hc hc2)
  have := (h.2.2.2.2 k hk hp).2.2.1
  simp only [this]
theorem rw_held (h : RWB sz la ce hh top) {c : Nat} (hc : 1 ≤ c) (hc2 : c < 2 ^ 31) : fX4_sumOf sz ce (nI c) 2 = some (hI hh c) := by
  have e : fX4_sumOf (nI (rk (pw hh) 20)) ce (nI c) 2 = _ := X4_sumOf (k := 2) h.2.1 (by omega) ce (nI c)
  rw [h.1, e, rw_sum h (q := 2) hc hc2 (fun k hk hp => (h.2.2.2.2 k hk hp).2.2.2.1)]
  rfl
theorem rw_count (h : RWB sz la ce hh top) {c : Nat} (hc : 1 ≤ c) (hc2 : c < 2 ^ 31) : fX4_countOf sz ce (nI c) = some (cI hh c) := by
  rw [h.1, X4_countOf h.2.1 ce (nI c)]
  refine congrArg some ?_
  refine sum_rk 20 (fun k hk hp => ⟨?_, fun _ => rfl⟩) (fun k _ hp => slt_ne hp hc hc2)
  have := (h.2.2.2.2 k hk hp).2.2.1
  simp only [this]
theorem rw_find (h : RWB sz la ce hh top) {k : Nat} (hk : k < 20) (hp : pw hh k = true) : fX4_find sz ce (nI (k + 1)) = some (nI (rk (pw hh) k)) := by
  rw [h.1]
  refine X4_find_i h.2.1 (rk_lt hp hk) (h.2.2.2.2 k hk hp).2.1 (fun j hj e => ?_)
  obtain ⟨i, h1, h2, h3⟩ := rk_surj hj
  have e2 := (h.2.2.2.2 i (by omega) h2).2.1
  rw [h3, e] at e2
  have := nI_inj (by omega) (by omega) e2
  omega
theorem rw_findn (h : RWB sz la ce hh top) {k : Nat} (hk : k < 20) (hp : pw hh k = false) : fX4_find sz ce (nI (k + 1)) = some (-1) := by
  rw [h.1]
  refine X4_find_n h.2.1 (fun j hj e => ?_)
  obtain ⟨i, h1, h2, h3⟩ := rk_surj hj
  have e2 := (h.2.2.2.2 i h1 h2).2.1
  rw [h3, e] at e2
  have := nI_inj (by omega) (by omega) e2
  have : i = k := by omega
  subst this
  rw [hp] at h2
  cases h2
theorem rw_get (h : RWB sz la ce hh top) {k q : Nat} (hk : k < 20) (hp : pw hh k = true) (hq : q < 4) : fX4_get sz ce (nI (rk (pw hh) k)) (nI q) = some (ce (rk (pw hh) k * 4 + q)) := by
  rw [h.1]
  exact X4_get (rk_lt hp hk) h.2.1 hq ce
theorem hI_toInt (hi : RIB hh qq) (c : Nat) : (hI hh c).toInt = hz hh c ∧ 0 ≤ hz hh c ∧ hz hh c ≤ 2000000000 := by
  have := sum_toInt20 (t := fun k => decide (hh (3 * k) = nI c)) (a := fun k => hh (3 * k + 1)) 20 (by omega) (fun i hi' => (hi i hi').2.1)
  exact ⟨this.1, this.2.1, by have := this.2.2; unfold hz; omega⟩
/-- the row of a slot goes -/
theorem rw_rm (h : RWB sz la ce hh top) {g : Nat} (hg : g < 20) (hp : pw hh g = true) {hh' ce' : Nat → Int32} (h0 : (hh' (3 * g)).toInt = 0) (ho : ∀ k, k < 20 → k ≠ g → hh' (3 * k) = hh (3 * k) ∧ hh' (3 * k + 1) = hh (3 * k + 1) ∧ hh' (3 * k + 2) = hh (3 * k + 2)) (e1 : ∀ j, j < (rk (pw hh) 20 - 1) * 4 → ce' j = if rk (pw hh) g * 4 ≤ j then ce (j + 4) else ce j) :
    RWB (nI (rk (pw hh) 20 - 1)) la ce' hh' top ∧ rk (pw hh') 20 + 1 = rk (pw hh) 20 := by
  have hQ : ∀ k, k < 20 → pw hh' k = (pw hh k && !decide (k = g)) := fun k hk => by
    by_cases e : k = g
    · subst e
      have : pw hh' k = false := decide_eq_false (by omega)
      rw [this]; simp
    · have : pw hh' k = pw hh k := by unfold pw; rw [(ho k hk e).1]
      rw [this]; simp [e]
  have hr := rk_rm hp hg hQ
  have h20 := (hr 20 (by omega)).2 hg
  refine ⟨⟨by rw [show rk (pw hh) 20 - 1 = rk (pw hh') 20 by omega], by have := h.2.1; omega, h.2.2.1, h.2.2.2.1, fun k hk hpk => ?_⟩, h20⟩
  have hpk0 := hpk
  rw [hQ k hk] at hpk
  have hne : k ≠ g := fun e => by subst e; simp at hpk
  have hpo : pw hh k = true := by
    cases q : pw hh k with
    | true => rfl
    | false => rw [q] at hpk; simp at hpk
  obtain ⟨w0, w1, w2, w3, w4⟩ := h.2.2.2.2 k hk hpo
  obtain ⟨o1, o2, o3⟩ := ho k hk hne
  have hlt := rk_lt hpk0 hk
  rw [o1, o2, o3]
  rcases Nat.lt_or_gt_of_ne hne with c | c
  · have e := (hr k (by omega)).1 (by omega)
    have hl := rk_lt hpo c
    rw [e] at hlt ⊢
    refine ⟨w0, ?_, ?_, ?_, ?_⟩
    · rw [e1 _ (by omega), if_neg (by omega)]; exact w1
    · rw [e1 _ (by omega), if_neg (by omega)]; exact w2
    · rw [e1 _ (by omega), if_neg (by omega)]; exact w3
    · rw [e1 _ (by omega), if_neg (by omega)]; exact w4
  · have e := (hr k (by omega)).2 c
    have hl := rk_lt hp c
    have e' : rk (pw hh') k = rk (pw hh) k - 1 := by omega
    rw [e'] at hlt ⊢
    refine ⟨w0, ?_, ?_, ?_, ?_⟩
    · rw [e1 _ (by omega), if_pos (by omega), show (rk (pw hh) k - 1) * 4 + 4 = rk (pw hh) k * 4 by omega]; exact w1
    · rw [e1 _ (by omega), if_pos (by omega), show (rk (pw hh) k - 1) * 4 + 1 + 4 = rk (pw hh) k * 4 + 1 by omega]; exact w2
    · rw [e1 _ (by omega), if_pos (by omega), show (rk (pw hh) k - 1) * 4 + 2 + 4 = rk (pw hh) k * 4 + 2 by omega]; exact w3
    · rw [e1 _ (by omega), if_pos (by omega), show (rk (pw hh) k - 1) * 4 + 3 + 4 = rk (pw hh) k * 4 + 3 by omega]; exact w4
theorem rw_remove (h : RWB sz la ce hh top) {g : Nat} (hg : g < 20) (hp : pw hh g = true) {hh' : Nat → Int32} (h0 : (hh' (3 * g)).toInt = 0) (ho : ∀ k, k < 20 → k ≠ g → hh' (3 * k) = hh (3 * k) ∧ hh' (3 * k + 1) = hh (3 * k + 1) ∧ hh' (3 * k + 2) = hh (3 * k + 2)) : ∃ sz' ce', fX4_remove sz ce (nI (rk (pw hh) g)) = some (sz', ce') ∧ RWB sz' la ce' hh' top ∧ rk (pw hh') 20 + 1 = rk (pw hh) 20 := by
  obtain ⟨ce', e1, e2⟩ := X4_remove h.2.1 (rk_lt hp hg) ce
  rw [← h.1] at e1
  obtain ⟨r1, r2⟩ := rw_rm h hg hp h0 ho e2
  exact ⟨_, ce', e1, r1, r2⟩
/-- nothing stands from the top on -/
theorem rw_top (h : RWB sz la ce hh top) : rk (pw hh) top = rk (pw hh) 20 := by
  have ht := h.2.2.2.1
  have g : ∀ n, top ≤ n → n ≤ 20 → rk (pw hh) n = rk (pw hh) top := by
    intro n hn
    induction hn with
    | refl => intro _; rfl
    | step hm ih =>
      rename_i m
      intro hm2
      have : pw hh m = false := by
        cases q : pw hh m with
        | false => rfl
        | true =>
          have h1 := (h.2.2.2.2 m (by omega) q).1
          have h2 : top ≤ m := hm
          omega
      rw [rk_f this]
      exact ih (by omega)
  exact (g 20 ht (Nat.le_refl _)).symm
/-- a row is put behind the others -/
theorem rw_append (h : RWB sz la ce hh top) (ht : top < 20) (hR : rk (pw hh) 20 < 15) {c : Nat} (hc : 1 ≤ c) (hc2 : c < 7) (v d : Int32) {hh' : Nat → Int32} (n0 : hh' (3 * top) = nI c) (n1 : hh' (3 * top + 1) = v) (n2 : hh' (3 * top + 2) = d) (ho : ∀ k, k < 20 → k ≠ top → hh' (3 * k) = hh (3 * k) ∧ hh' (3 * k + 1) = hh (3 * k + 1) ∧ hh' (3 * k + 2) = hh (3 * k + 2)) :
    ∃ ce', fX4_append sz la ce (nI c) v d = some (nI (top + 1), nI (rk (pw hh) 20 + 1), nI (top + 1), ce') ∧ RWB (nI (rk (pw hh) 20 + 1)) (nI (top + 1)) ce' hh' (top + 1) := by
  have htop := rw_top h
  have hpn : pw hh top = false := by
    cases q : pw hh top with
    | false => rfl
    | true => have := (h.2.2.2.2 top ht q).1; omega
  have hpt : pw hh' top = true := decide_eq_true (by rw [n0, nI_toInt (by omega)]; omega)
  have hQ : ∀ k, k < 20 → pw hh' k = (pw hh k || decide (k = top)) := fun k hk => by
    by_cases e : k = top
    · subst e; rw [hpt]; simp
    · have : pw hh' k = pw hh k := by unfold pw; rw [(ho k hk e).1]
      rw [this]; simp [e]
  have hr := rk_in hpn ht hQ
  have h20 := (hr 20 (by omega)).2 ht
  refine ⟨apR ce (rk (pw hh) 20) (nI (top + 1)) (nI c) v d, ?_, by rw [h20], by omega, rfl, by omega, fun k hk hpk => ?_⟩
  · rw [h.1, h.2.2.1, X4_append hR, nI_1]; rfl
  · by_cases e : k = top
    · subst e
      have e2 := (hr k (by omega)).1 (Nat.le_refl _)
      rw [e2, htop, n0, n1, n2]
      exact ⟨by omega, apR_0, apR_1, apR_2, apR_3⟩
    · have hpo : pw hh k = true := by
        have := hQ k hk
        rw [hpk] at this
        simpa [e] using this.symm
      obtain ⟨w0, w1, w2, w3, w4⟩ := h.2.2.2.2 k hk hpo
      obtain ⟨o1, o2, o3⟩ := ho k hk e
      have e2 := (hr k (by omega)).1 (by omega)
      have hlt := rk_lt hpo hk
      rw [e2, o1, o2, o3]
      have a0 : apR ce (rk (pw hh) 20) (nI (top + 1)) (nI c) v d (rk (pw hh) k * 4) = ce (rk (pw hh) k * 4) := apR_o (ce := ce) (R := rk (pw hh) 20) (i := rk (pw hh) k) (k := 0) (n := nI (top + 1)) (a := nI c) (v := v) (d := d) hlt (by omega)
      refine ⟨by omega, ?_, ?_, ?_, ?_⟩
      · rw [a0]; exact w1
      · rw [apR_o hlt (by omega)]; exact w2
      · rw [apR_o hlt (by omega)]; exact w3
      · rw [apR_o hlt (by omega)]; exact w4
theorem rw_appendF (h : RWB sz la ce hh top) (hR : rk (pw hh) 20 = 15) (a v d : Int32) : fX4_append sz la ce a v d = some (-4, sz, la, ce) := by
  rw [h.1]
  exact X4_appendF hR la ce a v d
/-- what is still to be paid, and what is paid, of a row -/
theorem rw_set2 (h : RWB sz la ce hh top) {g : Nat} (hg : g < 20) (hp : pw hh g = true) (v w : Int32) {hh' : Nat → Int32} (n0 : hh' (3 * g) = hh (3 * g)) (n1 : hh' (3 * g + 1) = v) (n2 : hh' (3 * g + 2) = w) (ho : ∀ k, k < 20 → k ≠ g → hh' (3 * k) = hh (3 * k) ∧ hh' (3 * k + 1) = hh (3 * k + 1) ∧ hh' (3 * k + 2) = hh (3 * k + 2)) : RWB sz la (upd (upd ce (rk (pw hh) g * 4 + 2) v) (rk (pw hh) g * 4 + 3) w) hh' top := by
  have hP : pw hh' = pw hh ∨ True := Or.inr trivial
  have hQ : ∀ k, k < 20 → pw hh' k = pw hh k := fun k hk => by
    by_cases e : k = g
    · subst e; unfold pw; rw [n0]
    · unfold pw; rw [(ho k hk e).1]
  have hr : ∀ n, n ≤ 20 → rk (pw hh') n = rk (pw hh) n := fun n hn => rk_cong n (fun k hk => hQ k (by omega))
  refine ⟨by rw [hr 20 (Nat.le_refl _)]; exact h.1, by rw [hr 20 (Nat.le_refl _)]; exact h.2.1, h.2.2.1, h.2.2.2.1, fun k hk hpk => ?_⟩
  rw [hQ k hk] at hpk
  rw [hr k (by omega)]
  obtain ⟨w0, w1, w2, w3, w4⟩ := h.2.2.2.2 k hk hpk
  by_cases e : k = g
  · subst e
    refine ⟨w0, ?_, ?_, ?_, ?_⟩
    · rw [upd_n (by omega), upd_n (by omega)]; exact w1
    · rw [upd_n (by omega), upd_n (by omega), n0]; exact w2
    · rw [upd_n (by omega), upd_s, n1]
    · rw [upd_s, n2]
  · have hne : rk (pw hh) k ≠ rk (pw hh) g := fun z => e (rk_inj hpk hp z)
    obtain ⟨o1, o2, o3⟩ := ho k hk e
    rw [o1, o2, o3]
    refine ⟨w0, ?_, ?_, ?_, ?_⟩
    · rw [upd_n (by omega), upd_n (by omega)]; exact w1
    · rw [upd_n (by omega), upd_n (by omega)]; exact w2
    · rw [upd_n (by omega), upd_n (by omega)]; exact w3
    · rw [upd_n (by omega), upd_n (by omega)]; exact w4
end RB
