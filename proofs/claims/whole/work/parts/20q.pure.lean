/-! the pure side, q: holds end, one day -/
def rowT (ce : Nat → Int32) (i : Nat) : Int32 × Int32 × Int32 × Int32 := (ce (i * 4), ce (i * 4 + 1), ce (i * 4 + 2), ce (i * 4 + 3))
def rowsL (ce : Nat → Int32) (R : Nat) : List (Int32 × Int32 × Int32 × Int32) := (List.range R).map (rowT ce)
def ovr (d : Int32) (r : Int32 × Int32 × Int32 × Int32) : Bool := decide (d ≤ r.2.2.2)
theorem rowsL_remove {R g : Nat} {ce ce' : Nat → Int32} (hg : g < R) (e1 : ∀ j, j < (R - 1) * 4 → ce' j = if g * 4 ≤ j then ce (j + 4) else ce j) : ∃ A B, rowsL ce R = A ++ rowT ce g :: B ∧ rowsL ce' (R - 1) = A ++ B := by
  refine ⟨(List.range g).map (rowT ce), (List.range (R - 1 - g)).map (fun i => rowT ce (g + 1 + i)), ?_, ?_⟩
  · unfold rowsL
    rw [show R = (g + 1) + (R - 1 - g) by omega, List.range_add, List.range_succ, List.map_append, List.map_append, List.map_map]
    rw [List.append_assoc]
    have : (g + 1 + (R - 1 - g)) - 1 - g = R - 1 - g := by omega
    rw [this]
    rfl
  · unfold rowsL
    rw [show R - 1 = g + (R - 1 - g) by omega, List.range_add, List.map_append, List.map_map]
    have : g + (R - 1 - g) - g = R - 1 - g := by omega
    rw [this]
    have r0 : ∀ i, i < R - 1 → rowT ce' i = rowT ce (if g ≤ i then i + 1 else i) := fun i hi => by
      unfold rowT
      rw [show ce' (i * 4) = _ from rm_row (k := 0) e1 hi (by omega), rm_row e1 hi (by omega), rm_row e1 hi (by omega), rm_row e1 hi (by omega)]
      rfl
    have eA : (List.range g).map (rowT ce') = (List.range g).map (rowT ce) := List.map_congr_left fun i hi => by
      rw [List.mem_range] at hi
      rw [r0 i (by omega), if_neg (by omega)]
    have eB : (List.range (R - 1 - g)).map (rowT ce' ∘ fun x => g + x) = (List.range (R - 1 - g)).map (fun i => rowT ce (g + 1 + i)) := List.map_congr_left fun i hi => by
      rw [List.mem_range] at hi
      show rowT ce' (g + i) = _
      rw [r0 (g + i) (by omega), if_pos (by omega)]
      exact congrArg (rowT ce) (by omega)
    rw [eA, eB]
theorem rowsL_all {R : Nat} {ce : Nat → Int32} {d : Int32} (h : ∀ i, i < R → d.toInt ≤ (ce (i * 4 + 3)).toInt) : (rowsL ce R).filter (ovr d) = rowsL ce R := by
  refine List.filter_eq_self.mpr fun x hx => ?_
  obtain ⟨i, hi, e⟩ := List.mem_map.mp hx
  rw [List.mem_range] at hi
  rw [← e]
  exact decide_eq_true (le_i.mpr (h i hi))
theorem rowsL_inj {R S : Nat} {ce cf : Nat → Int32} (h : rowsL ce R = rowsL cf S) : R = S ∧ ∀ j, j < 4 * R → ce j = cf j := by
  have hl := congrArg List.length h
  simp only [rowsL, List.length_map, List.length_range] at hl
  subst hl
  refine ⟨rfl, fun j hj => ?_⟩
  have hm : ∀ i, i < R → rowT ce i = rowT cf i := fun i hi => by
    have := congrArg (fun l => l[i]?) h
    simp only [rowsL, List.getElem?_map, List.getElem?_range hi, Option.map_some] at this
    exact Option.some.inj this
  have := hm (j / 4) (by omega)
  simp only [rowT, Prod.mk.injEq] at this
  obtain ⟨a0, a1, a2, a3⟩ := this
  rcases (by omega : j = j / 4 * 4 ∨ j = j / 4 * 4 + 1 ∨ j = j / 4 * 4 + 2 ∨ j = j / 4 * 4 + 3) with q | q | q | q
  · rw [q]; exact a0
  · rw [q]; exact a1
  · rw [q]; exact a2
  · rw [q]; exact a3
theorem endsHold_r {R g : Nat} {sz la : Int32} {ce st : Nat → Int32} (hr : RWr R sz la ce st 6 8 48) (hg : g < R) : ∃ st', fX8_endsHold st (nI g) = some st' ∧ (∀ j, j < 4 * (R - 1) → st' (48 + j) = if g * 4 ≤ j then st (48 + j + 4) else st (48 + j)) ∧ st' 6 = nI (R - 1) ∧ ∀ j, j ≠ 6 → j < 48 ∨ 108 ≤ j → st' j = st j := by
  obtain ⟨rz, r6, hR, r8⟩ := hr.1
  obtain ⟨s1, t1, t2, t3⟩ := M_takesOut (b := 48) (R := R) (g := g) (by omega) hg st
  have c6 : ∀ {β : Type} (k : Option β), ckI 6 336 k = k := fun k => ckI_ok (i := 6) (by omega) (by omega)
  refine ⟨upd s1 6 (nI (R - 1)), ?_, fun j hj => ?_, upd_s _ _ _, fun j h1 h2 => ?_⟩
  · unfold fX8_endsHold
    rw [c6, show (6 : Int32).toNatClampNeg = 6 from rfl, r6, show (48 : Int32) = nI 48 from rfl, t1, bd1_s, c6, c6, lts, t2 6 (by omega), r6, show nI R - 1 = nI (R - 1) from nI_sub (b := 1) (by omega)]
  · rw [upd_n (by omega)]; exact t3 j hj
  · rw [upd_n h1]; exact t2 j (by omega)
theorem endH_L {C n : Nat} {Anu Aba : Nat → Int32} {day d0 la : Int32} (u1 : Int64) : ∀ (k m R : Nat) (Hsz : Int32) (Hce st : Nat → Int32), m ≤ R → m < k → RWr R Hsz la Hce st 6 8 48 → NIv R la Hce n → HIv C Anu Aba R Hce d0 → st 0 = day → (∀ i, m ≤ i → i < R → day.toInt ≤ (Hce (i * 4 + 3)).toInt) →
    ∃ R' Hsz' Hce' st', fX5_endHoldsThatAreOver_L10 day k Hsz Hce (nI m - 1) = some (Hsz', Hce') ∧ fX8_passesDay_L114 u1 k st (nI m - 1) = some st' ∧ RWr R' Hsz' la Hce' st' 6 8 48 ∧ NIv R' la Hce' n ∧ HIv C Anu Aba R' Hce' d0 ∧ (∀ i, i < R' → day.toInt ≤ (Hce' (i * 4 + 3)).toInt) ∧ (∀ j, j ≠ 6 → j < 48 ∨ 108 ≤ j → st' j = st j) ∧ rowsL Hce' R' = (rowsL Hce R).filter (ovr day) := by
  intro k
  induction k with
  | zero => intro m R Hsz Hce st h1 h2; omega
  | succ k ih =>
    intro m R Hsz Hce st h1 h2 hr hn hh h0 hall
    rw [fX5_endHoldsThatAreOver_L10, fX8_passesDay_L114]
    have hR := hr.1.2.2.1
    by_cases e : m = 0
    · subst e
      rw [if_pos (show nI 0 - 1 < 0 by decide), if_pos (show nI 0 - 1 < 0 by decide)]
      exact ⟨R, Hsz, Hce, st, rfl, rfl, hr, hn, hh, fun i hi => hall i (by omega) hi, fun _ _ _ => rfl, (rowsL_all fun i hi => hall i (by omega) hi).symm⟩
    · obtain ⟨q, eq⟩ : ∃ q, m = q + 1 := ⟨m - 1, by omega⟩
      subst eq
      have ez : nI (q + 1) - 1 = nI q := nI_sub (a := q + 1) (b := 1) (by omega)
      have ez' : nI q + -1 = nI q - 1 := by rw [Int32.sub_eq_add_neg]
      have g3 : fX4_get Hsz Hce (nI q) 3 = some (Hce (q * 4 + 3)) := by rw [hr.1.1]; exact X4_get (k := 3) (by omega) hR (by omega) Hce
      have m3 : fX8_holdPart st (nI q) 3 = some (Hce (q * 4 + 3)) := by
        have e : fX8_holdPart st (nI q) 3 = _ := M_holdPart (c := q) (k := 3) (by omega) st
        rw [e, hr.2 (q * 4 + 3) (by omega), show 48 + (q * 4 + 3) = 48 + 4 * q + 3 by omega]
      rw [ez, if_neg (nI_nl (by omega)), if_neg (nI_nl (by omega)), g3, bd1_s, show ckI 0 336 _ = _ from ckI_ok (i := 0) (by omega) (by omega), m3, bd1_s, show (0 : Int32).toNatClampNeg = 0 from rfl, h0]
      by_cases c : day ≤ Hce (q * 4 + 3)
      · rw [if_pos c, if_pos c, ez']
        exact ih q R Hsz Hce st (by omega) (by omega) hr hn hh h0 (fun i hi hi2 => by
          by_cases d : i = q
          · subst d; exact le_i.mp c
          · exact hall i (by omega) hi2)
      · obtain ⟨ce', x1, x2⟩ := X4_remove hR (show q < R by omega) Hce
        obtain ⟨s1, m1, m2, m4, m5⟩ := endsHold_r hr (show q < R by omega)
        have hq : q < R := by omega
        rw [if_neg c, if_neg c, hr.1.1, x1, bd2_s, m1, bd1_s, ez']
        obtain ⟨R', Hsz', Hce', st', a1, a2, a3, a4, a5, a6, a7, a8⟩ := ih q (R - 1) (nI (R - 1)) ce' s1 (by omega) (by omega) (RWr_remove hr hq x2 m2 m4 (m5 _ (by omega) (by omega))) (NIv_remove hn x2) (HIv_remove hh hq x2) (by rw [m5 0 (by omega) (by omega)]; exact h0) (fun i hi hi2 => by
          rw [rm_row x2 hi2 (by omega), if_pos hi]
          exact hall (i + 1) (by omega) (by omega))
        refine ⟨R', Hsz', Hce', st', a1, a2, a3, a4, a5, a6, fun j h1 h2 => by rw [a7 j h1 h2, m5 j h1 h2], ?_⟩
        obtain ⟨A, B, b1, b2⟩ := rowsL_remove hq x2
        have nov : ovr day (rowT Hce q) = false := decide_eq_false c
        rw [a8, b1, b2, List.filter_append, List.filter_append, List.filter_cons, nov]
        rfl
theorem endH_i {C n R : Nat} {Anu Aba : Nat → Int32} {day d0 la Hsz : Int32} {Hce st : Nat → Int32} (u1 : Int64) (hr : RWr R Hsz la Hce st 6 8 48) (hn : NIv R la Hce n) (hh : HIv C Anu Aba R Hce d0) (h0 : st 0 = day) :
    ∃ R' Hsz' Hce' st', fX5_endHoldsThatAreOver Hsz Hce day = some (Hsz', Hce') ∧ fX8_passesDay_L114 u1 2147483648 st (nI R - 1) = some st' ∧ RWr R' Hsz' la Hce' st' 6 8 48 ∧ NIv R' la Hce' n ∧ HIv C Anu Aba R' Hce' day ∧ (∀ j, j ≠ 6 → j < 48 ∨ 108 ≤ j → st' j = st j) ∧ rowsL Hce' R' = (rowsL Hce R).filter (ovr day) := by
  have hR := hr.1.2.2.1
  obtain ⟨R', Hsz', Hce', st', a1, a2, a3, a4, a5, a6, a7, a8⟩ := endH_L (C := C) (Anu := Anu) (Aba := Aba) (day := day) (d0 := d0) u1 2147483648 R R Hsz Hce st (Nat.le_refl _) (by omega) hr hn hh h0 (fun i h1 h2 => by omega)
  refine ⟨R', Hsz', Hce', st', ?_, a2, a3, a4, ⟨fun i hi => ⟨(a5.1 i hi).1, (a5.1 i hi).2.1, (a5.1 i hi).2.2.1, a6 i hi⟩, a5.2⟩, a7, a8⟩
  unfold fX5_endHoldsThatAreOver
  rw [hr.1.1, lts]
  rw [hr.1.1] at a1
  rw [a1, bd2_s]
