/-! a turn of the law, and all turns -/
section TN
variable {n : Nat} {Asz : Int32} {Anu : Nat → Int32} {Aba : Nat → Int32} {Amo : Nat → Int32} {Aco : Nat → Int64} {Hsz : Int32} {Hla : Int32} {Hce : Nat → Int32} {Bsz : Int32} {Bla : Int32} {Bce : Nat → Int32} {Tma : Int32} {Tlc : Int32} {Ttc : Nat → Int32} {day : Int32} {lim : Int32} {low : Int32} {hig : Int32} {thr : Int32} {off : Int64} {cre : Int64} {rcp : Int64} {pay : Int64} {ee : Nat → Int32} {mm : Nat → Int64} {qq : Nat → Int32} {hh : Nat → Int32} {bb : Nat → Int32} {sv : Int32} {nx : Int32} {SL : Nat → XS} {rec : (Nat → Int32) → (Nat → Int64) → (Nat → Int32) → (Nat → Int32) → (Nat → Int32) → Int32 → (Nat → Int32) → (Nat → Int32) → Int32 → (Nat → Int32) → (Nat → Int32) → (Nat → Int32) → (Nat → Int64) → Int32 → Int32 → (Nat → Int32) → Int32 → Int32 → (Nat → Int32) → Int32 → Int32 → (Nat → Int32) → Int32 → Int32 → Int32 → Int32 → Int32 → Int64 → Int64 → Int64 → Int64 → Int32 → Int32 → (Nat → XS) → Int32 → Int32 → Option (Int32 ⊕ Unit)}
theorem nI_e0 {k m : Nat} (hk : k < 2 ^ 31) (hm : m < 2 ^ 31) : nI k = nI m ↔ k = m := ⟨fun e => by have e := congrArg Int32.toInt e; rw [nI_toInt hk, nI_toInt hm] at e; omega, fun e => by rw [e]⟩
theorem turn_1 (hr : HR rec n) (hn : n < 40) (h : PR n Asz Anu Aba Amo Aco Hsz Hla Hce Bsz Bla Bce Tma Tlc Ttc day lim low hig thr off cre rcp pay ee mm qq hh bb sv nx SL) (scL : Nat) (scx : Nat → Int32) (Ksz : Int32) (Kcl : Nat → Int32) (Kke : Nat → Int32) (z7 z9 z10 : Int32) {k c d : Nat} (hk : k < 18) (hc : 1 ≤ c ∧ c < 6) (hd : 1 ≤ d ∧ d < 6) {z14 : Int32} (hz : (z14 = 1 ∧ pq qq c = true) ∨ (z14 = 0 ∧ pq qq c = false)) {B : Nat} (hB : 1 ≤ B ∧ B ≤ 90000000) (s1 : Int32) :
    fL_law_J216 scL scx ee mm qq hh bb Ksz Kcl Kke Asz Anu Aba Amo Aco Hsz Hla Hce Bsz Bla Bce Tma Tlc Ttc day lim low hig thr off cre rcp pay sv nx SL z7 (nI n) z9 z10 (nI k) (nI c) (nI d) z14 (nI B) s1 1 rec = some (.inr ()) := by
  obtain ⟨x, hx, ex⟩ := low_i s1 (n := B) (by omega) (by omega)
  have ha : 1 ≤ ((1 : Int32) + nI x).toInt ∧ ((1 : Int32) + nI x).toInt ≤ 100000000 := by
    rw [show (1 : Int32) + nI x = nI (1 + x) from nI_add 1 x, nI_toInt (by omega)]; omega
  have eq : ∀ m, m < 18 → (nI k = nI m ↔ k = m) := fun m hm => nI_e0 (by omega) (by omega)
  have ge : ∀ m, m < 18 → m ≤ k → nI m ≤ nI k := fun m hm w => nI_le w (by omega)
  have lt : ∀ m, m < 18 → k < m → ¬ nI m ≤ nI k := fun m hm w => nI_ge w (by omega)
  have eq0 : nI k = (0 : Int32) ↔ k = 0 := eq 0 (by omega)
  have eq10 : nI k = (10 : Int32) ↔ k = 10 := eq 10 (by omega)
  have eq11 : nI k = (11 : Int32) ↔ k = 11 := eq 11 (by omega)
  have eq12 : nI k = (12 : Int32) ↔ k = 12 := eq 12 (by omega)
  have eq15 : nI k = (15 : Int32) ↔ k = 15 := eq 15 (by omega)
  have eq16 : nI k = (16 : Int32) ↔ k = 16 := eq 16 (by omega)
  have ge4 : 4 ≤ k → (4 : Int32) ≤ nI k := ge 4 (by omega)
  have lt4 : k < 4 → ¬ (4 : Int32) ≤ nI k := lt 4 (by omega)
  have ge6 : 6 ≤ k → (6 : Int32) ≤ nI k := ge 6 (by omega)
  have lt6 : k < 6 → ¬ (6 : Int32) ≤ nI k := lt 6 (by omega)
  have ge8 : 8 ≤ k → (8 : Int32) ≤ nI k := ge 8 (by omega)
  have lt8 : k < 8 → ¬ (8 : Int32) ≤ nI k := lt 8 (by omega)
  have ge10 : 10 ≤ k → (10 : Int32) ≤ nI k := ge 10 (by omega)
  have lt10 : k < 10 → ¬ (10 : Int32) ≤ nI k := lt 10 (by omega)
  have ge15 : 15 ≤ k → (15 : Int32) ≤ nI k := ge 15 (by omega)
  have lt15 : k < 15 → ¬ (15 : Int32) ≤ nI k := lt 15 (by omega)
  unfold fL_law_J216
  rw [ex, bd1_s, lts]
  by_cases k0 : k = 0
  · rw [if_pos (eq0.mpr k0)]
    exact case_open hr hn h scL scx Ksz Kcl Kke z7 z10 hc hz
  · rw [if_neg (fun w => k0 (eq0.mp w))]
    by_cases k4 : 4 ≤ k
    · rw [if_pos (ge4 k4)]
      by_cases k6 : 6 ≤ k
      · rw [if_pos (ge6 k6)]
        by_cases k8 : 8 ≤ k
        · rw [if_pos (ge8 k8)]
          by_cases k10 : 10 ≤ k
          · rw [if_pos (ge10 k10)]
            by_cases e10 : k = 10
            · rw [if_pos (eq10.mpr e10)]
              exact case_release hr hn h scL scx Ksz Kcl Kke z7 z10
            · rw [if_neg (fun w => e10 (eq10.mp w))]
              by_cases e11 : k = 11
              · rw [if_pos (eq11.mpr e11)]
                exact case_bill hr hn h scL scx Ksz Kcl Kke z7 z10 hc hz ha
              · rw [if_neg (fun w => e11 (eq11.mp w))]
                by_cases e12 : k = 12
                · rw [if_pos (eq12.mpr e12)]
                  exact case_settle hr hn h scL scx Ksz Kcl Kke z7 z10
                · rw [if_neg (fun w => e12 (eq12.mp w))]
                  by_cases k15 : 15 ≤ k
                  · rw [if_pos (ge15 k15)]
                    by_cases e15 : k = 15
                    · rw [if_pos (eq15.mpr e15)]
                      exact case_rates hr hn h scL scx Ksz Kcl Kke z7 z9 z10
                    · rw [if_neg (fun w => e15 (eq15.mp w))]
                      by_cases e16 : k = 16
                      · rw [if_pos (eq16.mpr e16)]
                        exact case_reverse hr hn h scL scx Ksz Kcl Kke z7 z10
                      · rw [if_neg (fun w => e16 (eq16.mp w))]
                        exact case_close hr hn h scL scx Ksz Kcl Kke z7 z10 hc hz
                  · rw [if_neg (lt15 (by omega))]
                    exact case_pass hr hn h scL scx Ksz Kcl Kke z7 z10 hc hz ha
          · rw [if_neg (lt10 (by omega))]
            exact case_hold hr hn h scL scx Ksz Kcl Kke z7 z9 z10 hc hz ha
        · rw [if_neg (lt8 (by omega))]
          exact case_transfer hr hn h scL scx Ksz Kcl Kke z7 z10 hc hd hz ha
      · rw [if_neg (lt6 (by omega))]
        exact case_pay hr hn h scL scx Ksz Kcl Kke z7 z10 hc hz ha
    · rw [if_neg (lt4 (by omega))]
      exact case_receive hr hn h scL scx Ksz Kcl Kke z7 z10 hc hz ha
theorem turn_2 (hr : HR rec n) (hn : n < 40) (h : PR n Asz Anu Aba Amo Aco Hsz Hla Hce Bsz Bla Bce Tma Tlc Ttc day lim low hig thr off cre rcp pay ee mm qq hh bb sv nx SL) (scL : Nat) (scx : Nat → Int32) (Ksz : Int32) (Kcl : Nat → Int32) (Kke : Nat → Int32) (z7 z9 z10 : Int32) {k : Nat} (hk : k < 18) :
    fL_law_J151 scL scx ee mm qq hh bb Ksz Kcl Kke Asz Anu Aba Amo Aco Hsz Hla Hce Bsz Bla Bce Tma Tlc Ttc day lim low hig thr off cre rcp pay sv nx SL z7 (nI n) z9 z10 (nI k) rec = some (.inr ()) := by
  obtain ⟨x, hx, ex⟩ := low_i z10 (n := 5) (by omega) (by omega)
  obtain ⟨y, hy, ey⟩ := low_i (z10 >>> (3 &&& 31)) (n := 5) (by omega) (by omega)
  have ex : fL_low z10 5 = some (nI x) := ex
  have ey : fL_low (z10 >>> (3 &&& 31)) 5 = some (nI y) := ey
  have last : ∀ z14, ((z14 = 1 ∧ pq qq (1 + x) = true) ∨ (z14 = 0 ∧ pq qq (1 + x) = false)) → fL_law_J190 scL scx ee mm qq hh bb Ksz Kcl Kke Asz Anu Aba Amo Aco Hsz Hla Hce Bsz Bla Bce Tma Tlc Ttc day lim low hig thr off cre rcp pay sv nx SL z7 (nI n) z9 z10 (nI k) (nI (1 + x)) (nI (1 + y)) z14 rec = some (.inr ()) := fun z14 hz => by
    obtain ⟨u, hu, eu⟩ := low_i (z9 >>> (5 &&& 31)) (n := 3) (by omega) (by omega)
    have eu : fL_low (z9 >>> (5 &&& 31)) 3 = some (nI u) := eu
    unfold fL_law_J190
    rw [eu, bd1_s]
    by_cases u0 : nI u = 0
    · rw [if_pos u0]
      exact turn_1 hr hn h scL scx Ksz Kcl Kke z7 z9 z10 hk (by omega) (by omega) hz (B := 90000000) (by omega) _
    · rw [if_neg u0]
      exact turn_1 hr hn h scL scx Ksz Kcl Kke z7 z9 z10 hk (by omega) (by omega) hz (B := 200000) (by omega) _
  unfold fL_law_J151
  rw [ex, bd1_s, lts, ey, bd1_s, lts, show (1 : Int32) + nI x = nI (1 + x) from nI_add 1 x, show (1 : Int32) + nI y = nI (1 + y) from nI_add 1 y, k18 (by omega), c18 (by omega)]
  by_cases q : qq (10 + (1 + x)) < 0
  · rw [if_pos q]
    refine last 0 (Or.inr ⟨rfl, decide_eq_false ?_⟩)
    rw [lt_i, toInt_0] at q
    omega
  · rw [if_neg q]
    refine last 1 (Or.inl ⟨rfl, decide_eq_true ?_⟩)
    rw [lt_i, toInt_0] at q
    omega
theorem cell_ok {L : Nat} (hL : L ≤ 260) (xs : Nat → Int32) {k : Nat} (hk : k < 2 ^ 31) : ∃ v, fL_cell L xs (nI k) = some v := by
  unfold fL_cell
  by_cases q : Int32.ofNat L ≤ nI k
  · rw [if_pos q]; exact ⟨_, rfl⟩
  · rw [if_neg q, ckI_ok (by
      refine Nat.lt_of_not_le fun w => q ?_
      exact nI_le w hk) (by omega)]
    exact ⟨_, rfl⟩
theorem turns {L : Nat} (hL : L ≤ 260) (xs : Nat → Int32) : ∀ (f n : Nat), 40 - n < f → ∀ (ee : Nat → Int32) (mm : Nat → Int64) (qq : Nat → Int32) (hh : Nat → Int32) (bb : Nat → Int32) (Ksz : Int32) (Kcl : Nat → Int32) (Kke : Nat → Int32) (Asz : Int32) (Anu : Nat → Int32) (Aba : Nat → Int32) (Amo : Nat → Int32) (Aco : Nat → Int64) (Hsz : Int32) (Hla : Int32) (Hce : Nat → Int32) (Bsz : Int32) (Bla : Int32) (Bce : Nat → Int32) (Tma : Int32) (Tlc : Int32) (Ttc : Nat → Int32) (day : Int32) (lim : Int32) (low : Int32) (hig : Int32) (thr : Int32) (off : Int64) (cre : Int64) (rcp : Int64) (pay : Int64) (sv : Int32) (nx : Int32) (SL : Nat → XS) (z7 : Int32), PR n Asz Anu Aba Amo Aco Hsz Hla Hce Bsz Bla Bce Tma Tlc Ttc day lim low hig thr off cre rcp pay ee mm qq hh bb sv nx SL → fL_law_L94 L xs f ee mm qq hh bb Ksz Kcl Kke Asz Anu Aba Amo Aco Hsz Hla Hce Bsz Bla Bce Tma Tlc Ttc day lim low hig thr off cre rcp pay sv nx SL z7 (nI n) = some (.inr ()) := by
  intro f
  induction f with
  | zero => intro n h; omega
  | succ f ih =>
    intro n hf ee mm qq hh bb Ksz Kcl Kke Asz Anu Aba Amo Aco Hsz Hla Hce Bsz Bla Bce Tma Tlc Ttc day lim low hig thr off cre rcp pay sv nx SL z7 h
    have hn40 := h.2.2
    unfold fL_law_L94
    by_cases e : 40 ≤ n
    · rw [if_pos (show (40 : Int32) ≤ nI n from nI_le (a := 40) e (by omega))]
    · rw [if_neg (show ¬ (40 : Int32) ≤ nI n from nI_ge (b := 40) (by omega) (by omega))]
      have hr : HR (fL_law_L94 L xs f) n := fun ee mm qq hh bb Ksz Kcl Kke Asz Anu Aba Amo Aco Hsz Hla Hce Bsz Bla Bce Tma Tlc Ttc day lim low hig thr off cre rcp pay sv nx SL z7 hp => by
        rw [nI_1]
        exact ih (n + 1) (by omega) ee mm qq hh bb Ksz Kcl Kke Asz Anu Aba Amo Aco Hsz Hla Hce Bsz Bla Bce Tma Tlc Ttc day lim low hig thr off cre rcp pay sv nx SL z7 hp
      have e2 : (2 : Int32) * nI n = nI (2 * n) := pk_mul 2 n
      obtain ⟨v, ev⟩ := cell_ok hL xs (k := 2 * n) (by omega)
      obtain ⟨w, ew⟩ := cell_ok hL xs (k := 2 * n + 1) (by omega)
      rw [e2, nI_1, ev, bd1_s, ew, bd1_s]
      by_cases q4 : (4 : Int32) ≤ nI n
      · rw [if_pos q4]
        by_cases q8 : (8 : Int32) ≤ nI n
        · rw [if_pos q8]
          obtain ⟨x, hx, ex⟩ := low_i v (n := 18) (by omega) (by omega)
          have ex : fL_low v 18 = some (nI x) := ex
          rw [ex, bd1_s]
          exact turn_2 hr (by omega) h L xs Ksz Kcl Kke z7 v w hx
        · rw [if_neg q8]
          exact turn_2 hr (by omega) h L xs Ksz Kcl Kke z7 v w (k := 1) (by omega)
      · rw [if_neg q4]
        exact turn_2 hr (by omega) h L xs Ksz Kcl Kke z7 v w (k := 0) (by omega)
theorem start_pq {q0 : Nat → Int32} : ∀ (f i : Nat), i ≤ 7 → 7 - i < f → ∀ qq : Nat → Int32, ∃ qq', fL_law_L67 f qq (nI i) = some qq' ∧ (∀ j, j < 10 + i → qq' j = qq j) ∧ ∀ j, i ≤ j → j < 7 → qq' (10 + j) = -1 := by
  intro f
  induction f with
  | zero => intro i h1 h2; omega
  | succ f ih =>
    intro i h1 h2 qq
    rw [fL_law_L67]
    by_cases e : i = 7
    · subst e
      rw [if_pos (show (7 : Int32) ≤ nI 7 from nI_le (a := 7) (by omega) (by omega))]
      exact ⟨qq, rfl, fun _ _ => rfl, fun j h1 h2 => by omega⟩
    · rw [if_neg (show ¬ (7 : Int32) ≤ nI i from nI_ge (b := 7) (by omega) (by omega)), k18 (by omega), lts, c18 (by omega), nI_1]
      obtain ⟨qq', e1, e2, e3⟩ := ih (i + 1) (by omega) (by omega) (upd qq (10 + i) (-1))
      refine ⟨qq', e1, fun j hj => by rw [e2 j (by omega), upd_n (by omega)], fun j h1 h2 => ?_⟩
      by_cases w : j = i
      · subst w
        rw [e2 _ (by omega), upd_s]
      · exact e3 j (by omega) h2
end TN
theorem rk_0 {P : Nat → Bool} : ∀ n, (∀ k, k < n → P k = false) → rk P n = 0
  | 0, _ => rfl
  | n + 1, h => by rw [rk_f (h n (Nat.lt_succ_self _))]; exact rk_0 n (fun k hk => h k (by omega))
theorem law_ok {L : Nat} (hL : L ≤ 260) (xs : Nat → Int32) : fL_law L xs (fun _ => 0) (fun _ => 0) (fun _ => 0) (fun _ => 0) (fun _ => 0) 0 (fun _ => 0) (fun _ => 0) 0 (fun _ => 0) (fun _ => 0) (fun _ => 0) (fun _ => 0) 0 0 (fun _ => 0) 0 0 (fun _ => 0) 0 7 (fun _ => 0) 0 100000 100 250 20 0 0 0 0 0 0 (fun _ => XS0) = some (1 : Int32) := by
  have j1 : ∀ {β : Type} (k : Option β), ckI 1 18 k = k := fun k => ckI_ok (i := 1) (by omega) (by omega)
  have j2 : ∀ {β : Type} (k : Option β), ckI 2 18 k = k := fun k => ckI_ok (i := 2) (by omega) (by omega)
  have j3 : ∀ {β : Type} (k : Option β), ckI 3 18 k = k := fun k => ckI_ok (i := 3) (by omega) (by omega)
  have j4 : ∀ {β : Type} (k : Option β), ckI 4 18 k = k := fun k => ckI_ok (i := 4) (by omega) (by omega)
  have j24 : ∀ {β : Type} (k : Option β), ckI 24 25 k = k := fun k => ckI_ok (i := 24) (by omega) (by omega)
  obtain ⟨qq', e1, e2, e3⟩ := start_pq (q0 := fun _ => 0) 2147483648 0 (by omega) (by omega) (upd (upd (upd (upd (fun _ => 0) 1 100000) 2 100) 3 250) 4 20)
  have e1 : fL_law_L67 2147483648 (upd (upd (upd (upd (fun _ => 0) 1 100000) 2 100) 3 250) 4 20) 0 = some qq' := e1
  have pf : ∀ c, c < 7 → pq qq' c = false := fun c hc => decide_eq_false (by rw [e3 c (by omega) hc]; decide)
  have wf : ∀ k, pw (fun _ => (0 : Int32)) k = false := fun k => decide_eq_false (by rw [toInt_0]; omega)
  have rp : rk (pq qq') 7 = 0 := rk_0 7 pf
  have rw0 : rk (pw (fun _ => (0 : Int32))) 20 = 0 := rk_0 20 (fun k _ => wf k)
  have no : ∀ {c : Nat} {P : Prop}, c < 7 → pq qq' c = true → P := fun hc h => by rw [pf _ hc] at h; cases h
  have now : ∀ {k : Nat} {P : Prop}, pw (fun _ => (0 : Int32)) k = true → P := fun h => by rw [wf] at h; cases h
  have hrw : RWB 0 0 (fun _ => 0) (fun _ => 0) 0 := ⟨by rw [rw0]; rfl, by omega, rfl, by omega, fun k _ h => now h⟩
  have hri : RIB (fun _ => 0) qq' := fun k _ => ⟨by rw [toInt_0]; omega, ⟨by rw [toInt_0]; omega, by rw [toInt_0]; omega⟩, fun h => now h⟩
  have hP : PR 0 0 (fun _ => 0) (fun _ => 0) (fun _ => 0) (fun _ => 0) 0 0 (fun _ => 0) 0 0 (fun _ => 0) 0 7 (fun _ => 0) 0 100000 100 250 20 0 0 0 0 (fun _ => 0) (vp_updL (fun _ => 0) 24 7) qq' (fun _ => 0) (fun _ => 0) 0 0 (fun _ => XS0) := by
    refine ⟨⟨0, 0, 0, 0, ⟨⟨by rw [rp]; rfl, pf 0 (by omega), pf 6 (by omega), fun c hc h => no hc h⟩, fun c hc h => no hc h, fun c hc h => no hc h, hrw, hri, ⟨fun k _ h => now h, fun c hc h => no hc h⟩, hrw, hri, ⟨rfl, ?_, ?_, ⟨by decide, by decide⟩, fun m k h1 h2 => by omega, fun h => by omega⟩, ⟨⟨rfl, ?_, ?_, ?_⟩, ⟨?_, ?_, ?_, ?_⟩, ⟨?_, ?_, ?_, ?_⟩, ⟨⟨by decide, by decide⟩, ⟨by decide, by decide⟩, ⟨by decide, by decide⟩, ⟨by decide, by decide⟩⟩, ?_⟩⟩, by omega, by omega⟩, ⟨0, by omega, rfl⟩, by omega⟩
    · rw [e2 5 (by omega)]; rfl
    · rw [updL_s]; decide
    · rw [e2 0 (by omega)]; rfl
    · rw [e2 6 (by omega)]; rfl
    · rw [e2 7 (by omega)]; rfl
    · rw [e2 1 (by omega)]; rfl
    · rw [e2 2 (by omega)]; rfl
    · rw [e2 3 (by omega)]; rfl
    · rw [e2 4 (by omega)]; rfl
    · rw [updL_n (by omega)]
    · rw [updL_n (by omega)]
    · rw [updL_n (by omega)]
    · rw [updL_n (by omega)]
    · rw [updL_n (by omega), updL_n (by omega), updL_n (by omega), updL_n (by omega)]
      have : sumC (pq qq') (vp_updL (fun _ => 0) 24 7) 7 = 0 := by
        simp only [sumC, pf 0 (by omega), pf 1 (by omega), pf 2 (by omega), pf 3 (by omega), pf 4 (by omega), pf 5 (by omega), pf 6 (by omega)]
        rfl
      rw [this]; rfl
  have g := turns hL xs 2147483648 0 (by omega) (fun _ => 0) (vp_updL (fun _ => 0) 24 7) qq' (fun _ => 0) (fun _ => 0) 0 (fun _ => 0) (fun _ => 0) 0 (fun _ => 0) (fun _ => 0) (fun _ => 0) (fun _ => 0) 0 0 (fun _ => 0) 0 0 (fun _ => 0) 0 7 (fun _ => 0) 0 100000 100 250 20 0 0 0 0 0 0 (fun _ => XS0) 0 hP
  have g : fL_law_L94 L xs 2147483648 (fun _ => 0) (vp_updL (fun _ => 0) 24 7) qq' (fun _ => 0) (fun _ => 0) 0 (fun _ => 0) (fun _ => 0) 0 (fun _ => 0) (fun _ => 0) (fun _ => 0) (fun _ => 0) 0 0 (fun _ => 0) 0 0 (fun _ => 0) 0 7 (fun _ => 0) 0 100000 100 250 20 0 0 0 0 0 0 (fun _ => XS0) 0 0 = some (.inr ()) := g
  have z1 : (1 : Int32).toNatClampNeg = 1 := rfl
  have z2 : (2 : Int32).toNatClampNeg = 2 := rfl
  have z3 : (3 : Int32).toNatClampNeg = 3 := rfl
  have z4 : (4 : Int32).toNatClampNeg = 4 := rfl
  have z24 : (24 : Int32).toNatClampNeg = 24 := rfl
  unfold fL_law
  rw [j1, lts, z1, j2, lts, z2, j3, lts, z3, j4, lts, z4, j24, lts, z24, e1, bd1_s, g]
  rfl
