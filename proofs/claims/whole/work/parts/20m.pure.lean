/-! the pure side, m: accounts open and close -/
theorem sumZ_none {t : Nat → Bool} {a : Nat → Int32} : ∀ (n : Nat), (∀ i, i < n → t i = false) → sumZ t a n = 0
  | 0, _ => rfl
  | n + 1, h => by rw [sumZ, sumZ_none n (fun i hi => h i (by omega)), h n (by omega)]; rfl
theorem sumZ_some {t : Nat → Bool} {a : Nat → Int32} : ∀ (n : Nat), (∀ i, i < n → 1 ≤ (a i).toInt) → ∀ i, i < n → t i = true → 1 ≤ sumZ t a n
  | 0, _, i, hi, _ => by omega
  | n + 1, h, i, hi, ht => by
    have nn : ∀ m, m ≤ n → 0 ≤ sumZ t a m := by
      intro m
      induction m with
      | zero => intro _; exact Int.le_refl 0
      | succ m ih => intro hm; rw [sumZ]; have := ih (by omega); have := h m (by omega); split <;> omega
    rw [sumZ]
    by_cases e : i = n
    · subst e
      rw [if_pos ht]
      have := nn i (Nat.le_refl _); have := h i (by omega); omega
    · have := sumZ_some n (fun i hi => h i (by omega)) i (by omega) ht
      have := h n (by omega)
      split <;> omega
/-- where the clients go when one is put in at w -/
def upI (w i : Nat) : Nat := if w < i then i - 1 else i
theorem upI_e {w i C : Nat} (h : i ≤ C) : (if w < i ∧ i ≤ C then i - 1 else i) = upI w i := by
  unfold upI
  by_cases c : w < i
  · rw [if_pos c, if_pos ⟨c, h⟩]
  · rw [if_neg c, if_neg (fun z => c z.1)]
theorem RSc_open {n C R B E dn w : Nat} {Asz : Int32} {Anu : Nat → Int32} {Aba : Nat → Int32} {Amo : Nat → Int32} {Aco : Nat → Int64} {Hsz : Int32} {Hla : Int32} {Hce : Nat → Int32} {Bsz : Int32} {Bla : Int32} {Bce : Nat → Int32} {Tma : Int32} {Tlc : Int32} {Ttc : Nat → Int32} {day : Int32} {lim : Int32} {low : Int32} {hig : Int32} {thr : Int32} {off : Int64} {cre : Int64} {rcp : Int64} {pay : Int64} {st : Nat → Int32} {gr : Nat → Int64} (h : RSc n C R B E dn Asz Anu Aba Amo Aco Hsz Hla Hce Bsz Bla Bce Tma Tlc Ttc day lim low hig thr off cre rcp pay st gr) (hC : C < 12) {p : Int32} (hp : 1 ≤ p.toInt ∧ p.toInt ≤ 99) (hno : ∀ j, j < C → ¬ Anu j = p) {nu ba mo st' : Nat → Int32} {co gr' : Nat → Int64} (hw : w ≤ C)
    (hr : ∀ i, i < C + 1 → nu i = st' (12 + 3 * i) ∧ ba i = st' (13 + 3 * i) ∧ mo i = st' (14 + 3 * i) ∧ co i = gr' i)
    (hx : ∀ i, i < C + 1 → i ≠ w → nu i = Anu (upI w i) ∧ ba i = Aba (upI w i) ∧ mo i = Amo (upI w i) ∧ co i = Aco (upI w i))
    (hnew : nu w = p ∧ ba w = 0 ∧ mo w = day ∧ co w = 0) (s5 : st' 5 = nI (C + 1)) (hst : ∀ j, j ≠ 5 → j < 12 ∨ 48 ≤ j → st' j = st j) (hgr : ∀ j, 12 ≤ j → gr' j = gr j)
    (hlo : ∀ i, i < w → (Anu i).toInt < p.toInt) (hhi : ∀ i, w ≤ i → i < C → p.toInt < (Anu i).toInt) :
    RSc n (C + 1) R B E dn (nI (C + 1)) nu ba mo co Hsz Hla Hce Bsz Bla Bce Tma Tlc Ttc day lim low hig thr off cre rcp pay st' gr' := by
  obtain ⟨hc, hI, hrr, hrn, hh, hb, hbn, hbi, ht, hv, hE, hs⟩ := h
  have hR := hrr.1.2.2.1
  have hB := hb.1.2.2.1
  have ui : ∀ i, i < C + 1 → i ≠ w → upI w i < C := fun i hi hne => by unfold upI; split <;> omega
  have ex : ∀ c, c < C → ∃ d, d < C + 1 ∧ Anu c = nu d := fun c hcC => by
    by_cases q : c < w
    · refine ⟨c, by omega, ?_⟩
      rw [(hx c (by omega) (by omega)).1]
      unfold upI; rw [if_neg (by omega)]
    · refine ⟨c + 1, by omega, ?_⟩
      rw [(hx (c + 1) (by omega) (by omega)).1]
      unfold upI; rw [if_pos (by omega)]; rfl
  refine ⟨⟨⟨rfl, s5, by omega⟩, hr⟩, ⟨fun i hi => ?_, fun i j hij hj => ?_⟩, RWr_ext hrr (hst _ (by omega) (by omega)) (hst _ (by omega) (by omega)) (fun j hj => hst _ (by omega) (by omega)), hrn, ⟨fun i hi => ?_, fun i hi => ?_⟩, RWr_ext hb (hst _ (by omega) (by omega)) (hst _ (by omega) (by omega)) (fun j hj => hst _ (by omega) (by omega)), hbn, fun i hi => ?_, TRr_ext ht (hst _ (by omega) (by omega)) (hst _ (by omega) (by omega)) (fun j _ _ => hst _ (by omega) (by omega)), hv, hE, ?_⟩
  · by_cases e : i = w
    · subst e
      rw [hnew.1, hnew.2.1, hnew.2.2.2]
      have z : (0 : Int64).toInt = 0 := rfl
      rw [toInt_0, z]
      omega
    · obtain ⟨a1, a2, a3, a4⟩ := hx i hi e
      rw [a1, a2, a4]
      exact hI.1 _ (ui i hi e)
  · by_cases e : i = w
    · rw [e, hnew.1, (hx j hj (by omega)).1]
      exact hhi _ (by unfold upI; rw [if_pos (by omega)]; omega) (ui j hj (by omega))
    · rw [(hx i (by omega) e).1]
      by_cases e2 : j = w
      · rw [e2, hnew.1]
        have : upI w i = i := by unfold upI; rw [if_neg (by omega)]
        rw [this]
        exact hlo i (by omega)
      · rw [(hx j hj e2).1]
        exact hI.2 _ _ (by unfold upI; split <;> split <;> omega) (ui j hj e2)
  · obtain ⟨⟨c, c1, c2⟩, g⟩ := hh.1 i hi
    obtain ⟨d, d1, d2⟩ := ex c c1
    exact ⟨⟨d, d1, c2.trans d2⟩, g⟩
  · by_cases e : i = w
    · subst e
      rw [hnew.1, hnew.2.1, toInt_0]
      have : hsZ Hce p R = 0 := sumZ_none R (fun j hj => by
        obtain ⟨⟨c, c1, c2⟩, g⟩ := hh.1 j hj
        rw [c2]
        exact decide_eq_false (hno c c1))
      omega
    · obtain ⟨a1, a2, a3, a4⟩ := hx i hi e
      rw [a1, a2]
      exact hh.2 _ (ui i hi e)
  · obtain ⟨⟨c, c1, c2⟩, g⟩ := hbi i hi
    obtain ⟨d, d1, d2⟩ := ex c c1
    exact ⟨⟨d, d1, c2.trans d2⟩, g⟩
  · obtain ⟨q1, q2, q3, q4⟩ := SCr_ext hs (fun j hj => hst j (by omega) (by omega))
    refine ⟨q1, q2, ?_, q4⟩
    rw [hgr _ (by omega), hgr _ (by omega), hgr _ (by omega), hgr _ (by omega)]
    exact q3
theorem num_dec (p : Int32) : ((1 ≤ p.toInt ∧ p.toInt ≤ 99) ∧ ¬ p < 1 ∧ p ≤ 99 ∧ fX8_within p 1 99 = some 1) ∨ ((p < 1 ∨ ¬ p < 1 ∧ ¬ p ≤ 99) ∧ fX8_within p 1 99 = some 0) := by
  have e9 : (99 : Int32).toInt = 99 := rfl
  simp only [within_i, lt_i, le_i, toInt_1, e9]
  by_cases c : 1 ≤ p.toInt ∧ p.toInt ≤ 99
  · exact Or.inl ⟨c, by omega, by omega, by rw [if_pos c]⟩
  · exact Or.inr ⟨by omega, by rw [if_neg c]⟩
theorem op_open {n : Nat} {Asz : Int32} {Anu : Nat → Int32} {Aba : Nat → Int32} {Amo : Nat → Int32} {Aco : Nat → Int64} {Hsz : Int32} {Hla : Int32} {Hce : Nat → Int32} {Bsz : Int32} {Bla : Int32} {Bce : Nat → Int32} {Tma : Int32} {Tlc : Int32} {Ttc : Nat → Int32} {day : Int32} {lim : Int32} {low : Int32} {hig : Int32} {thr : Int32} {off : Int64} {cre : Int64} {rcp : Int64} {pay : Int64} {st : Nat → Int32} {gr : Nat → Int64} (h : RS n Asz Anu Aba Amo Aco Hsz Hla Hce Bsz Bla Bce Tma Tlc Ttc day lim low hig thr off cre rcp pay st gr) {hi hi' : Nat → Int32} {gh gh' : Nat → Int64} {rc rc' : Int32} (hrec : fX8_record st gr hi gh rc = some (hi', gh', rc')) (p1 : Int32) :
    (∃ r : Int32, r < 0 ∧ fX5_openAccount Asz Anu Aba Amo Aco day p1 = some (r, Asz, Anu, Aba, Amo, Aco) ∧ fX8_open st gr hi gh rc p1 = some (r, st, gr, hi, gh, rc)) ∨
    (∃ r Asz' Anu' Aba' Amo' Aco' st' gr', 0 ≤ r ∧ fX5_openAccount Asz Anu Aba Amo Aco day p1 = some (r, Asz', Anu', Aba', Amo', Aco') ∧ fX8_open st gr hi gh rc p1 = some (r, st', gr', hi', gh', rc') ∧ RS n Asz' Anu' Aba' Amo' Aco' Hsz Hla Hce Bsz Bla Bce Tma Tlc Ttc day lim low hig thr off cre rcp pay st' gr') := by
  obtain ⟨C, R, B, E, dn, h⟩ := h
  have h' := h
  obtain ⟨hc, hI, hr, hrn, hh, hb, hbn, hbi, ht, hv, hE, hs⟩ := h'
  obtain ⟨hz, h5, hC⟩ := hc.1
  unfold fX5_openAccount fX8_open
  rcases num_dec p1 with ⟨a1, a2, a3, a4⟩ | ⟨a1, a4⟩
  · rw [if_neg a2, if_pos a3, a4, bd1_s, if_neg n10]
    rcases find_both hc hI p1 with ⟨c, f1, f2, f3, f4, f5⟩ | ⟨f3, f4, f5⟩
    · rw [f4, bd1_s, if_neg (nI_nl (by omega)), f5, bd1_s, if_neg (nI_nm6 (by omega))]
      exact Or.inl ⟨-3, by decide, rfl, rfl⟩
    · have k5 : ∀ {β : Type} (k : Option β), ckI 5 336 k = k := fun k => ckI_ok (i := 5) (by omega) (by omega)
      have k0 : ∀ {β : Type} (k : Option β), ckI 0 336 k = k := fun k => ckI_ok (i := 0) (by omega) (by omega)
      have z5 : (5 : Int32).toNatClampNeg = 5 := rfl
      rw [f4, bd1_s, if_pos (by decide), f5, bd1_s, if_pos rfl, k5, z5, h5]
      by_cases qC : C = 12
      · rw [hz, qC, if_neg (by decide), if_pos (show nI 12 = 12 from rfl)]
        exact Or.inl ⟨-4, by decide, rfl, rfl⟩
      · have q12 : nI C < 12 := by rw [lt_i, nI_toInt (by omega), show (12 : Int32).toInt = 12 from rfl]; omega
        obtain ⟨nu, ba, mo, co, s1, g1, w, x1, x2, x3, x4, x5, x6, x7, x8, x9⟩ := open_L (C := C) (by omega) p1 day 2147483648 C Anu Aba Amo Aco st gr (Nat.le_refl _) (by omega) (fun i hi hne => hc.2 i (by omega))
        rw [hz, if_pos q12, if_neg (show ¬ nI C = 12 from fun e => qC (nI_inj (a := C) (b := 12) (by omega) (by omega) e)), hrec, bd3_s, k5, lts, x2, bd3_s]
        unfold fX0_insert
        rw [if_pos q12, lts, nI_1, x1, bd5_s, X0_place (by omega) (by omega), bd1_s, if_neg n10, ckI_ok (by omega) (by omega), lts, ckI_ok (by omega) (by omega), lts, ckI_ok (by omega) (by omega), lts, ckI_ok (by omega) (by omega), lts, bd5_s, nI_clamp (by omega)]
        have sp0 : ∀ (s : Nat → Int32) (v : Int32), fX8_setPart s (nI w) 0 v = some (upd s (12 + 3 * w) v) := fun s v => M_setPart (c := w) (k := 0) (by omega) s v
        have sp1 : ∀ (s : Nat → Int32) (v : Int32), fX8_setPart s (nI w) 1 v = some (upd s (12 + 3 * w + 1) v) := fun s v => M_setPart (c := w) (k := 1) (by omega) s v
        have sp2 : ∀ (s : Nat → Int32) (v : Int32), fX8_setPart s (nI w) 2 v = some (upd s (12 + 3 * w + 2) v) := fun s v => M_setPart (c := w) (k := 2) (by omega) s v
        rw [sp0, bd1_s, sp1, bd1_s, k0, sp2, bd1_s, ckI_ok (by omega) (by omega), lts, k5, k5, lts, k5]
        rw [show (0 : Int32).toNatClampNeg = 0 from rfl, upd_n (j := 0) (k := 12 + 3 * w + 1) (by omega), upd_n (j := 0) (k := 12 + 3 * w) (by omega), x6 0 (by omega), hs.2.1.1]
        rw [upd_n (j := 5) (k := 12 + 3 * w + 2) (by omega), upd_n (j := 5) (k := 12 + 3 * w + 1) (by omega), upd_n (j := 5) (k := 12 + 3 * w) (by omega), x6 5 (by omega), h5, nI_1, upd_s]
        right
        refine ⟨nI (C + 1), nI (C + 1), _, _, _, _, _, _, nI_nn (by omega), rfl, rfl, ⟨C + 1, R, B, E, dn, RSc_open (w := w) (p := p1) h (by omega) a1 f3 x3 (fun i hi => ?_) (fun i hi hne => ?_) ⟨upd_s _ _ _, upd_s _ _ _, upd_s _ _ _, updL_s _ _ _⟩ (upd_s _ _ _) (fun j h1 h2 => ?_) (fun j hj => ?_) (fun i hi => ?_) (fun i h1 h2 => x9 i h1 h2)⟩⟩
        · by_cases e : i = w
          · subst e
            refine ⟨?_, ?_, ?_, ?_⟩
            · rw [upd_s, upd_n (by omega), upd_n (by omega), upd_n (by omega), upd_s]
            · rw [upd_s, upd_n (by omega), upd_n (by omega), show 13 + 3 * i = 12 + 3 * i + 1 by omega, upd_s]
            · rw [upd_s, upd_n (by omega), show 14 + 3 * i = 12 + 3 * i + 2 by omega, upd_s]
            · rw [updL_s, updL_s]
          · rw [upd_n e, upd_n e, upd_n e, updL_n e, upd_n (by omega), upd_n (by omega), upd_n (by omega), upd_n (by omega), upd_n (by omega), upd_n (by omega), upd_n (by omega), upd_n (by omega), upd_n (by omega), upd_n (by omega), upd_n (by omega), upd_n (by omega), updL_n e]
            exact x4 i (by omega) e
        · rw [upd_n hne, upd_n hne, upd_n hne, updL_n hne]
          have := x5 i hne
          rw [upI_e (by omega)] at this
          exact this
        · rw [upd_n h1, upd_n (by omega), upd_n (by omega), upd_n (by omega)]
          exact x6 j h2
        · rw [updL_n (by omega)]
          exact x7 j hj
        · rcases x8 with c | c
          · omega
          · have hw := f3 (w - 1) (by omega)
            have : (Anu (w - 1)).toInt ≠ p1.toInt := fun e => hw (Int32.toInt_inj.mp e)
            by_cases e : i = w - 1
            · rw [e]; omega
            · have := hI.2 i (w - 1) (by omega) (by omega)
              omega
  · rw [a4, bd1_s, if_pos rfl]
    refine Or.inl ⟨-2, by decide, ?_, rfl⟩
    rcases a1 with c1 | ⟨c1, c2⟩
    · rw [if_pos c1]
    · rw [if_neg c1, if_neg c2]
theorem M_close63_L {z : Nat} (h2 : z + 1 ≤ 12) : ∀ (n k : Nat) (st : Nat → Int32), k ≤ 3 → 3 - k < n → ∃ st', fX8_close_L63 (nI z) n st (nI k) = some st' ∧ ∀ j, st' j = if 12 + 3 * z + k ≤ j ∧ j < 15 + 3 * z then st (j + 3) else st j := by
  intro n
  induction n with
  | zero => intro k st h3 h4; omega
  | succ n ih =>
    intro k st h3 h4
    rw [fX8_close_L63]
    by_cases e : k = 3
    · subst e
      exact ⟨st, by rw [if_pos (by decide)], fun j => by rw [if_neg (by omega)]⟩
    · have hk : ¬ (3 : Int32) ≤ nI k := by rw [le_i, nI_toInt (by omega), show (3 : Int32).toInt = 3 from rfl]; omega
      rw [if_neg hk, nI_1, M_part (c := z + 1) (k := k) (by omega), bd1_s, M_setPart (c := z) (k := k) (by omega), bd1_s, nI_1]
      obtain ⟨st', g1, g2⟩ := ih (k + 1) (upd st (12 + 3 * z + k) (st (12 + 3 * (z + 1) + k))) (by omega) (by omega)
      refine ⟨st', g1, fun j => ?_⟩
      rw [g2 j]
      by_cases w : j = 12 + 3 * z + k
      · subst w
        rw [if_neg (by omega), upd_s, if_pos ⟨by omega, by omega⟩]
        exact congrArg st (by omega)
      · by_cases w2 : 12 + 3 * z + (k + 1) ≤ j ∧ j < 15 + 3 * z
        · rw [if_pos w2, if_pos ⟨by omega, by omega⟩, upd_n (by omega)]
        · rw [if_neg w2, if_neg (by omega), upd_n w]
theorem M_close113_L {z : Nat} (h2 : z < 12) : ∀ (n k : Nat) (st : Nat → Int32), st 5 = nI z → k ≤ 3 → 3 - k < n → ∃ st', fX8_close_L113 n st (nI k) = some st' ∧ ∀ j, (j < 12 + 3 * z ∨ 15 + 3 * z ≤ j) → st' j = st j := by
  intro n
  induction n with
  | zero => intro k st h5 h3 h4; omega
  | succ n ih =>
    intro k st h5 h3 h4
    rw [fX8_close_L113]
    by_cases e : k = 3
    · subst e
      exact ⟨st, by rw [if_pos (by decide)], fun j _ => rfl⟩
    · have hk : ¬ (3 : Int32) ≤ nI k := by rw [le_i, nI_toInt (by omega), show (3 : Int32).toInt = 3 from rfl]; omega
      rw [if_neg hk, show ckI 5 336 _ = _ from ckI_ok (i := 5) (by omega) (by omega), show (5 : Int32).toNatClampNeg = 5 from rfl, h5, M_setPart (c := z) (k := k) (by omega), bd1_s, nI_1]
      obtain ⟨st', g1, g2⟩ := ih (k + 1) (upd st (12 + 3 * z + k) 0) (by rw [upd_n (by omega)]; exact h5) (by omega) (by omega)
      exact ⟨st', g1, fun j hj => by rw [g2 j hj, upd_n (by omega)]⟩
theorem close_L {C : Nat} (hC : C ≤ 12) : ∀ (n z : Nat) (nu ba mo : Nat → Int32) (co : Nat → Int64) (st : Nat → Int32) (gr : Nat → Int64), z < C → C - z < n → st 5 = nI (C - 1) → (∀ i, i < C → nu i = st (12 + 3 * i) ∧ ba i = st (13 + 3 * i) ∧ mo i = st (14 + 3 * i) ∧ co i = gr i) →
    ∃ nu' ba' mo' co' st' gr', fX0_remove_L11 (nI C) n nu ba mo co (nI z) = some (nu', ba', mo', co') ∧ fX8_close_L50 n st gr (nI z) = some (st', gr') ∧ (∀ i, i + 1 < C → nu' i = st' (12 + 3 * i) ∧ ba' i = st' (13 + 3 * i) ∧ mo' i = st' (14 + 3 * i) ∧ co' i = gr' i) ∧ (∀ i, i + 1 < C → (nu' i = nu (if z ≤ i then i + 1 else i) ∧ ba' i = ba (if z ≤ i then i + 1 else i) ∧ mo' i = mo (if z ≤ i then i + 1 else i) ∧ co' i = co (if z ≤ i then i + 1 else i))) ∧ (∀ j, j < 12 ∨ 48 ≤ j → st' j = st j) ∧ (∀ j, 12 ≤ j → gr' j = gr j) := by
  intro n
  induction n with
  | zero => intro z nu ba mo co st gr h1 h2; omega
  | succ n ih =>
    intro z nu ba mo co st gr h1 h2 h5 hr
    rw [fX0_remove_L11, fX8_close_L50, show ckI 5 336 _ = _ from ckI_ok (i := 5) (by omega) (by omega), show (5 : Int32).toNatClampNeg = 5 from rfl, h5, nI_1]
    by_cases e : z + 1 = C
    · rw [if_pos (nI_le (by omega) (by omega)), if_pos (nI_le (by omega) (by omega))]
      exact ⟨nu, ba, mo, co, st, gr, rfl, rfl, fun i hi => hr i (by omega), fun i hi => by rw [if_neg (by omega)]; exact ⟨rfl, rfl, rfl, rfl⟩, fun _ _ => rfl, fun _ _ => rfl⟩
    · obtain ⟨s1, g1, g2⟩ := M_close63_L (z := z) (by omega) 2147483648 0 st (by omega) (by omega)
      rw [nI_0] at g1
      rw [if_neg (nI_ge (by omega) (by omega)), if_neg (nI_ge (by omega) (by omega)), X0_copyRow hC (by omega) (by omega), bd4_s, g1, bd1_s, ckI_ok (by omega) (by omega), ckI_ok (by omega) (by omega), lts, nI_clamp (by omega), nI_clamp (by omega)]
      obtain ⟨r1, r2, r3, r4⟩ := hr (z + 1) (by omega)
      obtain ⟨nu', ba', mo', co', st', gr', a1, a2, a4, a5, a6, a7⟩ := ih (z + 1) (upd nu z (nu (z + 1))) (upd ba z (ba (z + 1))) (upd mo z (mo (z + 1))) (vp_updL co z (co (z + 1))) s1 (vp_updL gr z (gr (z + 1))) (by omega) (by omega) (by rw [g2, if_neg (by omega)]; exact h5) (fun i hi => by
        rw [g2, g2, g2]
        by_cases w : i = z
        · subst w
          rw [upd_s, upd_s, upd_s, updL_s, updL_s, if_pos ⟨by omega, by omega⟩, if_pos ⟨by omega, by omega⟩, if_pos ⟨by omega, by omega⟩]
          exact ⟨r1, r2, r3, r4⟩
        · rw [upd_n w, upd_n w, upd_n w, updL_n w, updL_n w, if_neg (by omega), if_neg (by omega), if_neg (by omega)]
          exact hr i hi)
      refine ⟨nu', ba', mo', co', st', gr', a1, a2, a4, fun i hi => ?_, fun j hj => ?_, fun j hj => ?_⟩
      · obtain ⟨b1, b2, b3, b4⟩ := a5 i hi
        rw [b1, b2, b3, b4]
        by_cases c1 : z + 1 ≤ i
        · rw [if_pos c1, if_pos (by omega), upd_n (by omega), upd_n (by omega), upd_n (by omega), updL_n (by omega)]
          exact ⟨rfl, rfl, rfl, rfl⟩
        · rw [if_neg c1]
          by_cases c2 : i = z
          · subst c2
            rw [if_pos (by omega), upd_s, upd_s, upd_s, updL_s]
            exact ⟨rfl, rfl, rfl, rfl⟩
          · rw [if_neg (by omega), upd_n c2, upd_n c2, upd_n c2, updL_n c2]
            exact ⟨rfl, rfl, rfl, rfl⟩
      · rw [a6 j hj, g2 j, if_neg (by omega)]
      · rw [a7 j hj, updL_n (by omega)]
theorem op_close {n : Nat} {Asz : Int32} {Anu : Nat → Int32} {Aba : Nat → Int32} {Amo : Nat → Int32} {Aco : Nat → Int64} {Hsz : Int32} {Hla : Int32} {Hce : Nat → Int32} {Bsz : Int32} {Bla : Int32} {Bce : Nat → Int32} {Tma : Int32} {Tlc : Int32} {Ttc : Nat → Int32} {day : Int32} {lim : Int32} {low : Int32} {hig : Int32} {thr : Int32} {off : Int64} {cre : Int64} {rcp : Int64} {pay : Int64} {st : Nat → Int32} {gr : Nat → Int64} (h : RS n Asz Anu Aba Amo Aco Hsz Hla Hce Bsz Bla Bce Tma Tlc Ttc day lim low hig thr off cre rcp pay st gr) {hi hi' : Nat → Int32} {gh gh' : Nat → Int64} {rc rc' : Int32} (hrec : fX8_record st gr hi gh rc = some (hi', gh', rc')) (p1 : Int32) :
    (∃ r : Int32, r < 0 ∧ fX5_closeAccount Asz Anu Aba Amo Aco Bsz Bce p1 = some (r, Asz, Anu, Aba, Amo, Aco) ∧ fX8_close st gr hi gh rc p1 = some (r, st, gr, hi, gh, rc)) ∨
    (∃ r Asz' Anu' Aba' Amo' Aco' st' gr', 0 ≤ r ∧ fX5_closeAccount Asz Anu Aba Amo Aco Bsz Bce p1 = some (r, Asz', Anu', Aba', Amo', Aco') ∧ fX8_close st gr hi gh rc p1 = some (r, st', gr', hi', gh', rc') ∧ RS n Asz' Anu' Aba' Amo' Aco' Hsz Hla Hce Bsz Bla Bce Tma Tlc Ttc day lim low hig thr off cre rcp pay st' gr') := by
  obtain ⟨C, R, B, E, dn, h⟩ := h
  obtain ⟨hc, hI, hr, hrn, hh, hb, hbn, hbi, ht, hv, hE, hs⟩ := h
  obtain ⟨hz, h5, hC⟩ := hc.1
  have hR := hr.1.2.2.1
  obtain ⟨bz, b7, hB, b9⟩ := hb.1
  unfold fX5_closeAccount fX8_close
  rcases find_both hc hI p1 with ⟨c, f1, f2, f3, f4, f5⟩ | ⟨f3, f4, f5⟩
  · rw [f4, bd1_s, if_pos (nI_nn (by omega)), f5, bd1_s, if_neg (nI_nm6 (by omega))]
    have p1' : fX8_part st (nI c) 1 = some (Aba c) := by
      have := M_part (c := c) (k := 1) (by omega) st
      rw [show 12 + 3 * c + 1 = 13 + 3 * c by omega, ← (hc.2 c f1).2.1] at this
      exact this
    rw [hz, X0_balanceAt f1 hC, bd1_s, p1', bd1_s]
    by_cases q0 : Aba c = 0
    · have m1 : fX8_billsOf st p1 = some (sumI (fun j => decide (Bce (j * 4 + 1) = p1)) (fun _ => 1) B) := by
        rw [M_billsOf hB b7]
        refine congrArg some (sumI_cong B (fun i hi => ⟨?_, fun _ => rfl⟩))
        rw [hb.2 (i * 4 + 1) (by omega), show 108 + (i * 4 + 1) = 108 + 4 * i + 1 by omega]
      obtain ⟨S, eS⟩ : ∃ S, S = sumI (fun j => decide (Bce (j * 4 + 1) = p1)) (fun _ => 1) B := ⟨_, rfl⟩
      have sS := (sum_toInt (t := fun j => decide (Bce (j * 4 + 1) = p1)) (a := fun _ => 1) B hB (fun i _ => ⟨by decide, by decide⟩)).1
      rw [if_pos q0, if_pos q0, bz, X4_countOf hB, bd1_s, m1, bd1_s, ← eS]
      by_cases q1 : S ≤ 0
      · rw [if_pos q1, if_pos q1, hrec, bd3_s]
        have k5 : ∀ {β : Type} (k : Option β), ckI 5 336 k = k := fun k => ckI_ok (i := 5) (by omega) (by omega)
        have z5 : (5 : Int32).toNatClampNeg = 5 := rfl
        obtain ⟨nu, ba, mo, co, s1, g1, x1, x2, x4, x5, x6, x7⟩ := close_L hC 2147483648 c Anu Aba Amo Aco (upd st 5 (nI (C - 1))) gr f1 (by omega) (upd_s _ _ _) (fun i hi => by rw [upd_n (by omega), upd_n (by omega), upd_n (by omega)]; exact hc.2 i hi)
        have s15 : s1 5 = nI (C - 1) := by rw [x6 5 (by omega), upd_s]
        obtain ⟨s2, y1, y2⟩ := M_close113_L (z := C - 1) (by omega) 2147483648 0 s1 s15 (by omega) (by omega)
        rw [nI_0] at y1
        have s25 : s2 5 = nI (C - 1) := by rw [y2 5 (by omega), s15]
        have s2o : ∀ j, j ≠ 5 → j < 12 ∨ 48 ≤ j → s2 j = st j := fun j h1 h2 => by rw [y2 j (by omega), x6 j h2, upd_n h1]
        rw [k5, k5, lts, z5, h5, show nI C - 1 = nI (C - 1) from nI_sub (b := 1) (by omega), x2, bd2_s, y1, bd1_s, k5, s25, ckI_ok (by omega) (by omega), lts, k5]
        unfold fX0_remove
        rw [X0_place f1 hC, bd1_s, if_neg n10, x1, bd4_s, lts, show nI C - 1 = nI (C - 1) from nI_sub (b := 1) (by omega), bd5_s]
        right
        have nob : ∀ i, i < B → ¬ Bce (i * 4 + 1) = p1 := fun i hi e => by
          have := sumZ_some (t := fun j => decide (Bce (j * 4 + 1) = p1)) (a := fun _ => 1) B (fun _ _ => by decide) i hi (decide_eq_true e)
          rw [le_i, toInt_0, eS, sS] at q1
          omega
        have noh : ∀ i, i < R → ¬ Hce (i * 4 + 1) = p1 := fun i hi e => by
          have := sumZ_some (t := fun j => decide (Hce (j * 4 + 1) = p1)) (a := fun j => Hce (j * 4 + 2)) R (fun j hj => (hh.1 j hj).2.1) i hi (decide_eq_true e)
          have g := hh.2 c f1
          rw [q0, toInt_0, f2] at g
          have : 1 ≤ hsZ Hce p1 R := this
          omega
        have ui : ∀ i, i + 1 < C → (if c ≤ i then i + 1 else i) < C := fun i hi => by split <;> omega
        have ex : ∀ d, d < C → ¬ Anu d = p1 → ∃ i, i < C - 1 ∧ Anu d = nu i := fun d hd hne => by
          have : d ≠ c := fun e => hne (by rw [e, f2])
          by_cases q : d < c
          · refine ⟨d, by omega, ?_⟩
            rw [(x5 d (by omega)).1, if_neg (by omega)]
          · refine ⟨d - 1, by omega, ?_⟩
            rw [(x5 (d - 1) (by omega)).1, if_pos (by omega), show d - 1 + 1 = d by omega]
        refine ⟨nI (C - 1), nI (C - 1), nu, ba, mo, co, s2, _, nI_nn (by omega), rfl, rfl, ⟨C - 1, R, B, E, dn, ⟨⟨rfl, s25, by omega⟩, fun i hi => ?_⟩, ⟨fun i hi => ?_, fun i j hij hj => ?_⟩, RWr_ext hr (s2o _ (by omega) (by omega)) (s2o _ (by omega) (by omega)) (fun j hj => s2o _ (by omega) (by omega)), hrn, ⟨fun i hi => ?_, fun i hi => ?_⟩, RWr_ext (bz ▸ hb) (s2o _ (by omega) (by omega)) (s2o _ (by omega) (by omega)) (fun j hj => s2o _ (by omega) (by omega)), hbn, fun i hi => ?_, TRr_ext ht (s2o _ (by omega) (by omega)) (s2o _ (by omega) (by omega)) (fun j _ _ => s2o _ (by omega) (by omega)), hv, hE, ?_⟩⟩
        · rw [y2 _ (by omega), y2 _ (by omega), y2 _ (by omega), nI_clamp (by omega), updL_n (by omega)]
          exact x4 i (by omega)
        · obtain ⟨w1, w2, w3, w4⟩ := x5 i (by omega)
          rw [w1, w2, w4]
          exact hI.1 _ (ui i (by omega))
        · rw [(x5 i (by omega)).1, (x5 j (by omega)).1]
          exact hI.2 _ _ (by split <;> split <;> omega) (ui j (by omega))
        · obtain ⟨⟨d, d1, d2⟩, g⟩ := hh.1 i hi
          obtain ⟨k, k1, k2⟩ := ex d d1 (fun e => noh i hi (d2.trans e))
          exact ⟨⟨k, k1, d2.trans k2⟩, g⟩
        · obtain ⟨w1, w2, w3, w4⟩ := x5 i (by omega)
          rw [w1, w2]
          exact hh.2 _ (ui i (by omega))
        · obtain ⟨⟨d, d1, d2⟩, g⟩ := hbi i hi
          obtain ⟨k, k1, k2⟩ := ex d d1 (fun e => nob i hi (d2.trans e))
          exact ⟨⟨k, k1, d2.trans k2⟩, g⟩
        · obtain ⟨q1, q2, q3, q4⟩ := SCr_ext hs (fun j hj => s2o j (by omega) (by omega))
          refine ⟨q1, q2, ?_, q4⟩
          rw [nI_clamp (by omega), updL_n (by omega), updL_n (by omega), updL_n (by omega), updL_n (by omega), x7 _ (by omega), x7 _ (by omega), x7 _ (by omega), x7 _ (by omega)]
          exact q3
      · rw [if_neg q1, if_neg q1]
        exact Or.inl ⟨-3, by decide, rfl, rfl⟩
    · rw [if_neg q0, if_neg q0]
      exact Or.inl ⟨-3, by decide, rfl, rfl⟩
  · rw [f4, bd1_s, if_neg (by decide), f5, bd1_s, if_pos rfl]
    exact Or.inl ⟨-1, by decide, rfl, rfl⟩
