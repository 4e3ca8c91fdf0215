/-- an entry, class and book -/
def TR5 (E : Nat) (Tma Tlc : Int32) (Ttc : Nat → Int32) (mm : Nat → Int64) (qq ee : Nat → Int32) : Prop :=
  Tma = nI E ∧ qq 5 = nI E ∧ mm 24 = Tlc.toInt64 ∧ (0 ≤ Tlc.toInt ∧ Tlc.toInt ≤ 1000002) ∧ ∀ n k, 1 ≤ n → n ≤ E → E < n + 10 → k < 6 → Ttc (n % 24 * 7 + k) = ee (6 * (n % 10) + k)
theorem enter_c {E dn cf cs : Nat} {Asz Tma Tlc day : Int32} {Anu Aba Amo Ttc : Nat → Int32} {mm : Nat → Int64} {qq ee : Nat → Int32} (hc : CLB Asz Anu Aba Amo mm qq) (ht : TR5 E Tma Tlc Ttc mm qq ee) (hE : E + 1 < 2 ^ 30) (hd : day = nI dn ∧ qq 0 = nI dn ∧ dn ≤ 9999) (hf : cf < 7) (hpf : pq qq cf = true) (hs : cs < 7) (hps : cs = 0 ∨ pq qq cs = true) {k a : Int32} (hk : 1 ≤ k.toInt ∧ k.toInt ≤ 6) (ha : 0 ≤ a.toInt ∧ a.toInt ≤ 1000000000) (he : EIB k (nI cf) (nI cs) a) :
    ∃ Amo' Tlc' Ttc' ee' mm' qq', fX5_enter Asz Anu Amo Tma Tlc Ttc day k (nI cf) (nI cs) a = some (Amo', nI (E + 1), Tlc', Ttc') ∧ fL_enter ee mm qq k (nI cf) (nI cs) a = some (ee', mm', qq') ∧ CLB Asz Anu Aba Amo' mm' qq' ∧ TRB (E + 1) (nI (E + 1)) Tlc' Ttc' mm' qq' ee' ∧ pq qq' = pq qq ∧ (∀ j, j ≠ 24 → mm' j = mm j) ∧ (∀ j, j ≠ 5 → j < 10 → qq' j = qq j) ∧ (∀ j, (j < (E + 1) % 24 * 7 ∨ (E + 1) % 24 * 7 + 7 ≤ j) → Ttc' j = Ttc j) := by
  obtain ⟨t1, t2, t3, t4, t5⟩ := ht
  obtain ⟨d1, d2, d3⟩ := hd
  obtain ⟨r1, x1, x2⟩ := cl_move hc hf day
  obtain ⟨r2, y1, y2⟩ := cl_move hc hs day
  obtain ⟨A1, x3, x4⟩ := x2 Amo
  obtain ⟨A2, y3, y4⟩ := y2 A1
  obtain ⟨qq', l1, l2, l3⟩ := l_enter (ee := ee) (mm := mm) (cf := cf) (cs := cs) t2 hE hf hs k a
  have hx : fX5_enter Asz Anu Amo Tma Tlc Ttc day k (nI cf) (nI cs) a = some (A2, nI (E + 1), chk Tlc day k (nI cf) (nI cs) a, ent7 Ttc ((E + 1) % 24 * 7) day k (nI cf) (nI cs) a (chk Tlc day k (nI cf) (nI cs) a)) := by
    unfold fX5_enter
    rw [t1, X6_append (by omega), bd3_s, x1, bd1_s, x3, bd1_s, y1, bd1_s, y3, bd1_s]
  have hdt : day.toInt = dn := by rw [d1, nI_toInt (by omega)]
  obtain ⟨g1, g2, g3⟩ := lck_b (lc := Tlc) (d := day) (k := k) (f := nI cf) (s := nI cs) (a := a) t4 (by omega) (by omega) (by rw [nI_toInt (by omega)]; omega) (by rw [nI_toInt (by omega)]; omega) ha
  have ed : qq 0 = day := by rw [d1, d2]
  rw [t3, ed, ← g1] at l1
  rw [ed] at l3
  have cc : (chk Tlc day k (nI cf) (nI cs) a).toInt64.toInt32 = chk Tlc day k (nI cf) (nI cs) a := Int32.toInt32_toInt64 _
  rw [cc] at l1
  have hp : pq qq' = pq qq := funext fun c => by
    unfold pq
    rw [l3 _ (by omega)]
    have q0 : (0 : Int) ≤ day.toInt := by omega
    by_cases e : 10 + c = 10 + cf ∨ (10 + c = 10 + cs ∧ 0 < cs)
    · rw [if_pos e]
      have : pq qq c = true := by
        rcases e with e | ⟨e, e2⟩
        · have : c = cf := by omega
          rw [this]; exact hpf
        · have : c = cs := by omega
          rcases hps with h | h
          · omega
          · rw [this]; exact h
      have h2 : (0 : Int) ≤ (qq (10 + c)).toInt := of_decide_eq_true this
      rw [decide_eq_true q0, decide_eq_true h2]
    · rw [if_neg e]
  have hold : ∀ e j, 1 ≤ e → e ≤ E → E + 1 < e + 24 → j < 7 → ent7 Ttc ((E + 1) % 24 * 7) day k (nI cf) (nI cs) a (chk Tlc day k (nI cf) (nI cs) a) (e % 24 * 7 + j) = Ttc (e % 24 * 7 + j) := by
    intro e j h1 h2 h3 h4
    exact ent7_n (by omega)
  have hnew : ∀ j, j < 7 → ent7 Ttc ((E + 1) % 24 * 7) day k (nI cf) (nI cs) a (chk Tlc day k (nI cf) (nI cs) a) ((E + 1) % 24 * 7 + j) = ent7 (fun _ => 0) 0 day k (nI cf) (nI cs) a (chk Tlc day k (nI cf) (nI cs) a) j := fun j hj => ent7_at hj
  have mold : ∀ e j, 1 ≤ e → e ≤ E → E + 1 < e + 10 → j < 6 → ent6 ee (6 * ((E + 1) % 10)) day k (nI cf) (nI cs) a (chk Tlc day k (nI cf) (nI cs) a) (6 * (e % 10) + j) = ee (6 * (e % 10) + j) := by
    intro e j h1 h2 h3 h4
    exact ent6_n (by omega)
  have mnew : ∀ j, j < 6 → ent6 ee (6 * ((E + 1) % 10)) day k (nI cf) (nI cs) a (chk Tlc day k (nI cf) (nI cs) a) (6 * ((E + 1) % 10) + j) = ent7 (fun _ => 0) 0 day k (nI cf) (nI cs) a (chk Tlc day k (nI cf) (nI cs) a) j := fun j hj => ent6_at hj
  refine ⟨A2, _, _, _, _, qq', hx, l1, ?_, ⟨rfl, l2, by rw [updL_s], ⟨g2, g3⟩, fun e j h1 h2 h3 h4 => ?_, fun _ => ⟨?_, ?_⟩⟩, hp, fun j hj => updL_n hj, fun j h1 h2 => by rw [l3 j h1, if_neg (by omega)], fun j hj => ent7_n hj⟩
  · unfold CLB
    rw [hp]
    refine ⟨hc.1, hc.2.1, hc.2.2.1, fun c hcc hpc => ?_⟩
    obtain ⟨w1, w2, w3⟩ := hc.2.2.2 c hcc hpc
    have hne := pq_ne hc hcc hpc
    refine ⟨w1, by rw [updL_n (by omega)]; exact w2, ?_⟩
    rw [y4 c hcc hpc, x4 c hcc hpc, l3 _ (by omega), w3]
    by_cases e1 : c = cs
    · rw [if_pos e1, if_pos (by omega)]
    · rw [if_neg e1]
      by_cases e2 : c = cf
      · rw [if_pos e2, if_pos (by omega)]
      · rw [if_neg e2, if_neg (by omega)]
  · by_cases q : e = E + 1
    · subst q; rw [hnew j (by omega), mnew j h4]
    · rw [hold e j h1 (by omega) (by omega) (by omega), mold e j h1 (by omega) (by omega) h4]
      exact t5 e j h1 (by omega) (by omega) h4
  · rw [hnew 6 (by omega)]; rfl
  · rw [mnew 1 (by omega), mnew 2 (by omega), mnew 3 (by omega), mnew 4 (by omega)]
    exact he
theorem enter_b {E dn cf cs : Nat} {Asz Tma Tlc day : Int32} {Anu Aba Amo Ttc : Nat → Int32} {mm : Nat → Int64} {qq ee : Nat → Int32} (hc : CLB Asz Anu Aba Amo mm qq) (ht : TRB E Tma Tlc Ttc mm qq ee) (hE : E + 1 < 2 ^ 30) (hd : day = nI dn ∧ qq 0 = nI dn ∧ dn ≤ 9999) (hf : cf < 7) (hpf : pq qq cf = true) (hs : cs < 7) (hps : cs = 0 ∨ pq qq cs = true) {k a : Int32} (hk : 1 ≤ k.toInt ∧ k.toInt ≤ 6) (ha : 0 ≤ a.toInt ∧ a.toInt ≤ 1000000000) (he : EIB k (nI cf) (nI cs) a) :
    ∃ Amo' Tlc' Ttc' ee' mm' qq', fX5_enter Asz Anu Amo Tma Tlc Ttc day k (nI cf) (nI cs) a = some (Amo', nI (E + 1), Tlc', Ttc') ∧ fL_enter ee mm qq k (nI cf) (nI cs) a = some (ee', mm', qq') ∧ CLB Asz Anu Aba Amo' mm' qq' ∧ TRB (E + 1) (nI (E + 1)) Tlc' Ttc' mm' qq' ee' ∧ pq qq' = pq qq ∧ (∀ j, j ≠ 24 → mm' j = mm j) ∧ (∀ j, j ≠ 5 → j < 10 → qq' j = qq j) := by
  obtain ⟨Amo', Tlc', Ttc', ee', mm', qq', e1, e2, e3, e4, e5, e6, e7, -⟩ := enter_c hc ⟨ht.1, ht.2.1, ht.2.2.1, ht.2.2.2.1, ht.2.2.2.2.1⟩ hE hd hf hpf hs hps hk ha he
  exact ⟨Amo', Tlc', Ttc', ee', mm', qq', e1, e2, e3, e4, e5, e6, e7⟩
/-- the saved states: only the slot matters -/
def HSB (nx : Int32) : Prop := ∃ j : Nat, j < 7 ∧ nx = nI j
theorem prep_b (Asz : Int32) (Anu : Nat → Int32) (Aba : Nat → Int32) (Amo : Nat → Int32) (Aco : Nat → Int64) (Hsz : Int32) (Hla : Int32) (Hce : Nat → Int32) (Bsz : Int32) (Bla : Int32) (Bce : Nat → Int32) (Tma : Int32) (Tlc : Int32) (Ttc : Nat → Int32) (day : Int32) (lim : Int32) (low : Int32) (hig : Int32) (thr : Int32) (off : Int64) (cre : Int64) (rcp : Int64) (pay : Int64) {nx : Int32} (h : HSB nx) (SL : Nat → XS) : ∃ SL', fX1_prepare Asz Anu Aba Amo Aco Hsz Hla Hce Bsz Bla Bce Tma Tlc Ttc day lim low hig thr off cre rcp pay nx SL = some SL' := by
  obtain ⟨j, hj, rfl⟩ := h
  unfold fX1_prepare
  rw [ckI_ok (by omega) (by omega)]
  exact ⟨_, rfl⟩
theorem keep_b {sv nx : Int32} (h : HSB nx) : ∃ sv' nx', fX1_keep sv nx = some (sv', nx') ∧ HSB nx' := by
  obtain ⟨j, hj, rfl⟩ := h
  unfold fX1_keep
  simp only [lts]
  by_cases c : j < 6
  · rw [if_neg (show ¬ (6 : Int32) ≤ nI j from nI_ge (b := 6) c (by omega))]
    exact ⟨_, _, rfl, j + 1, by omega, by rw [nI_1]⟩
  · rw [if_pos (show (6 : Int32) ≤ nI j from nI_le (a := 6) (by omega) (by omega))]
    exact ⟨_, _, rfl, 0, by omega, rfl⟩
theorem kept_neg {sv nx r : Int32} (h : r < 0) : fX7_keptUnlessError sv nx r = some (r, sv, nx) := by
  unfold fX7_keptUnlessError
  rw [if_pos h]
theorem kept_pos {sv nx sv' nx' r : Int32} (h : 0 ≤ r) (k : fX1_keep sv nx = some (sv', nx')) : fX7_keptUnlessError sv nx r = some (r, sv', nx') := by
  unfold fX7_keptUnlessError
  rw [if_neg (fun z => by rw [lt_i] at z; rw [le_i] at h; omega), k, bd2_s]
