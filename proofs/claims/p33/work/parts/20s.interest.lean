/-! a day's interest, on both sides -/
def sR (lim low hig thr : Int32) (next : Nat) (b : Int32) (t : Int64) : Int32 := if next % 30 = 0 then crI thr b (t + growL lim low hig b) else 0
def RG (lim low hig thr : Int32) : Prop := (0 ≤ lim.toInt ∧ lim.toInt ≤ 1000000000) ∧ (0 ≤ low.toInt ∧ low.toInt ≤ 2000) ∧ (0 ≤ hig.toInt ∧ hig.toInt ≤ 2000) ∧ (0 ≤ thr.toInt ∧ thr.toInt ≤ 10000)
theorem sR_b {lim low hig thr b : Int32} {t : Int64} {D next : Nat} (hg : RG lim low hig thr) (hD : D ≤ 11000) (hb : 0 ≤ b.toInt ∧ b.toInt ≤ 1000000000) (ht : 0 ≤ t.toInt ∧ t.toInt ≤ 2000000000000 * (D : Int)) :
    (0 ≤ (t + growL lim low hig b).toInt ∧ (t + growL lim low hig b).toInt ≤ 2000000000000 * ((D : Int) + 1)) ∧ (0 ≤ (sR lim low hig thr next b t).toInt ∧ (sR lim low hig thr next b t).toInt ≤ 1000000000) ∧ (b + sR lim low hig thr next b t).toInt = b.toInt + (sR lim low hig thr next b t).toInt ∧ (b + sR lim low hig thr next b t).toInt ≤ 1000000000 ∧ (b + sR lim low hig thr next b t).toInt64 = b.toInt64 + (sR lim low hig thr next b t).toInt64 ∧ (0 ≤ (t + growL lim low hig b + -3650000 * (sR lim low hig thr next b t).toInt64).toInt ∧ (t + growL lim low hig b + -3650000 * (sR lim low hig thr next b t).toInt64).toInt ≤ 2000000000000 * ((D : Int) + 1)) := by
  obtain ⟨l1, l2, l3, l4⟩ := hg
  have g := growL_b (lim := lim) (low := low) (hig := hig) (b := b) l1.1 l2 l3 hb
  have hT : (t + growL lim low hig b).toInt = t.toInt + (growL lim low hig b).toInt := add64 (by omega) (by omega)
  have hr : 0 ≤ (sR lim low hig thr next b t).toInt ∧ (sR lim low hig thr next b t).toInt ≤ 1000000000 - b.toInt ∧ 3650000 * (sR lim low hig thr next b t).toInt ≤ (t + growL lim low hig b).toInt := by
    unfold sR
    by_cases c : next % 30 = 0
    · rw [if_pos c]
      exact crI_b hb (by omega)
    · rw [if_neg c, toInt_0]
      omega
  obtain ⟨r, er⟩ : ∃ r, r = sR lim low hig thr next b t := ⟨_, rfl⟩
  rw [← er] at hr ⊢
  have hv : (b + r).toInt = b.toInt + r.toInt := add_toInt (by omega) (by omega)
  have k0 : (-3650000 : Int64).toInt = -3650000 := rfl
  have k1 : (-3650000 * r.toInt64).toInt = -3650000 * r.toInt := by rw [mul64 (by rw [k0, up64]; omega) (by rw [k0, up64]; omega), k0, up64]
  have k2 : (t + growL lim low hig b + -3650000 * r.toInt64).toInt = (t + growL lim low hig b).toInt - 3650000 * r.toInt := by
    rw [add64 (by rw [k1]; omega) (by rw [k1]; omega), k1]; omega
  refine ⟨by omega, by omega, hv, by omega, ?_, by omega⟩
  refine Int64.toInt_inj.mp ?_
  rw [up64, hv, add64 (by rw [up64, up64]; omega) (by rw [up64, up64]; omega), up64, up64]
theorem le64_i {a b : Int32} : a.toInt64 ≤ b.toInt64 ↔ a ≤ b := by rw [le64, up64, up64, le_i]
theorem int_v1 {v : Int64} {thr : Int32} (h0 : 0 ≤ v.toInt) (v1 : v < 1) : (if v < thr.toInt64 then (0 : Int32) else v.toInt32) = 0 := by
  have o1 : (1 : Int64).toInt = 1 := rfl
  rw [lt64, o1] at v1
  have v0 : v = 0 := Int64.toInt_inj.mp (by show v.toInt = 0; omega)
  rw [v0]
  split
  · rfl
  · rfl
theorem li88 {thr : Int32} {mm : Nat → Int64} {qq : Nat → Int32} {c next : Nat} (q4 : qq 4 = thr) (hc : 1 ≤ c) (hc2 : c < 7) (hn : next < 2 ^ 30) {v T : Int64} (hv : 0 ≤ v.toInt ∧ v.toInt ≤ 1000000000) {r : Int32} (er : r = if next % 30 = 0 then (if v < thr.toInt64 then 0 else v.toInt32) else 0) : fL_interest_J88 (vp_updL mm (10 + c) T) qq (nI c) (nI next) v = some (r.toInt64, if r = 0 then vp_updL mm (10 + c) T else vp_updL (vp_updL (vp_updL mm (10 + c) T) c (mm c + v)) (10 + c) (T - 3650000 * v)) := by
  have cc : (nI c).toNatClampNeg = c := nI_clamp (by omega)
  have kk : ∀ {β : Type} (k : Option β), ckI (nI c) 25 k = k := fun k => ckI_ok (by omega) (by omega)
  have kk1 : ∀ {β : Type} (k : Option β), ckI (10 + nI c) 25 k = k := fun k => by rw [show (10 : Int32) + nI c = nI (10 + c) from nI_add 10 c]; exact ckI_ok (by omega) (by omega)
  have cc1 : ((10 : Int32) + nI c).toNatClampNeg = 10 + c := by rw [show (10 : Int32) + nI c = nI (10 + c) from nI_add 10 c, nI_clamp (by omega)]
  have j4 : ∀ {β : Type} (k : Option β), ckI 4 18 k = k := fun k => ckI_ok (i := 4) (by omega) (by omega)
  have z4 : (4 : Int32).toNatClampNeg = 4 := rfl
  have uc : ∀ x, vp_updL mm (10 + c) x c = mm c := fun x => updL_n (by omega)
  have uu : ∀ x y, vp_updL (vp_updL mm (10 + c) x) c y (10 + c) = x := fun x y => by rw [updL_n (by omega), updL_s]
  have e30 : nI next - nI next / 30 * 30 = nI (next % 30) := remN (a := next) (n := 30) (by omega) (by omega) (by omega)
  have hm30 : next % 30 < 30 := Nat.mod_lt _ (by omega)
  unfold fL_interest_J88
  rw [e30]
  by_cases w : next % 30 = 0
  · rw [if_pos w] at er
    rw [w, if_neg (show ¬ (0 : Int32) < nI 0 by decide)]
    by_cases v1 : v < 1
    · rw [int_v1 hv.1 v1] at er
      rw [if_pos v1, er, if_pos rfl, z64]
    · rw [if_neg v1, j4, z4, q4]
      have o1 : (1 : Int64).toInt = 1 := rfl
      have v1 := Int64.not_lt.mp v1
      rw [le64, o1] at v1
      have d := dn64 (v := v) (by omega) (by omega)
      by_cases v2 : thr.toInt64 ≤ v
      · rw [if_neg (Int64.not_lt.mpr v2)] at er
        have nz : ¬ r = 0 := fun e => by
          have := d.1
          rw [← er, e, toInt_0] at this
          omega
        rw [if_pos v2, if_neg nz, er, d.2]
        simp only [kk, kk1, cc, cc1, lts, uc, uu]
      · rw [if_pos (Int64.not_le.mp v2)] at er
        rw [if_neg v2, er, if_pos rfl, z64]
  · rw [if_neg w] at er
    rw [if_pos (show (0 : Int32) < nI (next % 30) by rw [lt_i, toInt_0, nI_toInt (by omega)]; omega), er, if_pos rfl, z64]
theorem room64 {b : Int32} (hm : 0 ≤ b.toInt ∧ b.toInt ≤ 1000000000) : (1000000000 - b).toInt64 = 1000000000 - b.toInt64 := by
  refine Int64.toInt_inj.mp ?_
  have e9 : (1000000000 : Int64).toInt = 1000000000 := rfl
  rw [room_e hm, sub64 (by rw [e9, up64]; omega) (by rw [e9, up64]; omega), e9, up64]
theorem grow_u {lim low hig b u : Int32} (hu : u = (if lim < b then lim else b)) : low.toInt64 * u.toInt64 + hig.toInt64 * (b.toInt64 - u.toInt64) = growL lim low hig b := by
  unfold growL
  rw [hu]
theorem intL_64 {b : Int32} (hm : 0 ≤ b.toInt ∧ b.toInt ≤ 1000000000) (T : Int64) : intL b T = if 1000000000 - b.toInt64 < T / 3650000 then 1000000000 - b.toInt64 else T / 3650000 := by
  unfold intL
  rw [room64 hm]
theorem li21 {lim low hig : Int32} {mm : Nat → Int64} {qq : Nat → Int32} {c : Nat} {next : Int32} (q2 : qq 2 = low) (q3 : qq 3 = hig) (hc : 1 ≤ c) (hc2 : c < 7) {b : Int32} (hm : 0 ≤ b.toInt ∧ b.toInt ≤ 1000000000) (eb : mm c = b.toInt64) {u : Int32} (hu : u = (if lim < b then lim else b)) : fL_interest_J21 mm qq (nI c) next u.toInt64 = fL_interest_J88 (vp_updL mm (10 + c) (mm (10 + c) + growL lim low hig b)) qq (nI c) next (intL b (mm (10 + c) + growL lim low hig b)) := by
  have cc : (nI c).toNatClampNeg = c := nI_clamp (by omega)
  have kk : ∀ {β : Type} (k : Option β), ckI (nI c) 25 k = k := fun k => ckI_ok (by omega) (by omega)
  have kk1 : ∀ {β : Type} (k : Option β), ckI (10 + nI c) 25 k = k := fun k => by rw [show (10 : Int32) + nI c = nI (10 + c) from nI_add 10 c]; exact ckI_ok (by omega) (by omega)
  have cc1 : ((10 : Int32) + nI c).toNatClampNeg = 10 + c := by rw [show (10 : Int32) + nI c = nI (10 + c) from nI_add 10 c, nI_clamp (by omega)]
  have j2 : ∀ {β : Type} (k : Option β), ckI 2 18 k = k := fun k => ckI_ok (i := 2) (by omega) (by omega)
  have j3 : ∀ {β : Type} (k : Option β), ckI 3 18 k = k := fun k => ckI_ok (i := 3) (by omega) (by omega)
  have z2 : (2 : Int32).toNatClampNeg = 2 := rfl
  have z3 : (3 : Int32).toNatClampNeg = 3 := rfl
  have us : ∀ x, vp_updL mm (10 + c) x (10 + c) = x := fun x => updL_s _ _ _
  have uc : ∀ x, vp_updL mm (10 + c) x c = b.toInt64 := fun x => by rw [updL_n (by omega), eb]
  have hgr : low.toInt64 * u.toInt64 + hig.toInt64 * (b.toInt64 - u.toInt64) = growL lim low hig b := grow_u hu
  obtain ⟨T, eT⟩ : ∃ T, T = mm (10 + c) + growL lim low hig b := ⟨_, rfl⟩
  have il := intL_64 hm T
  unfold fL_interest_J21
  rw [kk1, j2, j3, kk, kk1, lts, kk1, lts, kk, kk, cc, cc1, z2, z3, q2, q3, eb, hgr, ← eT, us, uc, il]
  by_cases w : T / 3650000 ≤ 1000000000 - b.toInt64
  · rw [if_pos w, if_neg (Int64.not_lt.mpr w)]
  · rw [if_neg w, if_pos (Int64.not_le.mp w)]
theorem l_interest {lim low hig thr : Int32} {mm : Nat → Int64} {qq : Nat → Int32} {c D next : Nat} (hg : RG lim low hig thr) (hq : qq 1 = lim ∧ qq 2 = low ∧ qq 3 = hig ∧ qq 4 = thr) (hc : 1 ≤ c) (hc2 : c < 7) (hD : D ≤ 11000) (hn : next < 2 ^ 30) (hm : 0 ≤ (mm c).toInt ∧ (mm c).toInt ≤ 1000000000) (ht : 0 ≤ (mm (10 + c)).toInt ∧ (mm (10 + c)).toInt ≤ 2000000000000 * (D : Int)) {b : Int32} (eb : mm c = b.toInt64) {t : Int64} (et : mm (10 + c) = t) :
    ∃ mm', fL_interest mm qq (nI c) (nI next) = some ((sR lim low hig thr next b t).toInt64, mm') ∧ mm' c = (b + sR lim low hig thr next b t).toInt64 ∧ mm' (10 + c) = t + growL lim low hig b + -3650000 * (sR lim low hig thr next b t).toInt64 ∧ ∀ j, j ≠ c → j ≠ 10 + c → mm' j = mm j := by
  obtain ⟨q1, q2, q3, q4⟩ := hq
  rw [eb, up64] at hm
  rw [et] at ht
  have sb := sR_b (next := next) hg hD hm ht
  have cc : (nI c).toNatClampNeg = c := nI_clamp (by omega)
  have kk : ∀ {β : Type} (k : Option β), ckI (nI c) 25 k = k := fun k => ckI_ok (by omega) (by omega)
  have j1 : ∀ {β : Type} (k : Option β), ckI 1 18 k = k := fun k => ckI_ok (i := 1) (by omega) (by omega)
  have z1 : (1 : Int32).toNatClampNeg = 1 := rfl
  have st : fL_interest mm qq (nI c) (nI next) = fL_interest_J88 (vp_updL mm (10 + c) (t + growL lim low hig b)) qq (nI c) (nI next) (intL b (t + growL lim low hig b)) := by
    unfold fL_interest
    rw [kk, j1, kk, j1, cc, z1, q1, eb, ← et]
    by_cases w : lim < b
    · rw [if_neg (fun z => Int32.not_lt.mpr (le64_i.mp z) w)]
      exact li21 q2 q3 hc hc2 hm eb (by rw [if_pos w])
    · rw [if_pos (le64_i.mpr (Int32.not_lt.mp w))]
      exact li21 q2 q3 hc hc2 hm eb (by rw [if_neg w])
  have iB := intL_b (b := b) (t := t + growL lim low hig b) hm sb.1.1
  have er : sR lim low hig thr next b t = if next % 30 = 0 then (if intL b (t + growL lim low hig b) < thr.toInt64 then 0 else (intL b (t + growL lim low hig b)).toInt32) else 0 := rfl
  have iv : 0 ≤ (intL b (t + growL lim low hig b)).toInt ∧ (intL b (t + growL lim low hig b)).toInt ≤ 1000000000 := ⟨iB.1, by have := iB.2.1; omega⟩
  rw [st, li88 q4 hc hc2 hn iv er]
  have d := dn64 (v := intL b (t + growL lim low hig b)) (by have := iv.1; omega) (by have := iv.2; omega)
  obtain ⟨v, ev⟩ : ∃ v, v = intL b (t + growL lim low hig b) := ⟨_, rfl⟩
  obtain ⟨T, eT⟩ : ∃ T, T = t + growL lim low hig b := ⟨_, rfl⟩
  obtain ⟨r, hr⟩ : ∃ r, r = sR lim low hig thr next b t := ⟨_, rfl⟩
  rw [← hr] at er sb ⊢
  rw [← ev] at er d ⊢
  rw [← eT]
  by_cases w : r = 0
  · rw [if_pos w]
    exact ⟨_, rfl, by rw [updL_n (by omega), eb, w, Int32.add_zero], by rw [updL_s, w, z64, Int64.mul_zero, Int64.add_zero], fun j h1 h2 => updL_n h2⟩
  · rw [if_neg w]
    have vr : v = r.toInt64 := by
      have : r = v.toInt32 := by
        by_cases a : next % 30 = 0
        · rw [if_pos a] at er
          by_cases a2 : v < thr.toInt64
          · rw [if_pos a2] at er; exact absurd er w
          · rw [if_neg a2] at er; exact er
        · rw [if_neg a] at er; exact absurd er w
      rw [this, d.2]
    refine ⟨_, rfl, ?_, ?_, fun j h1 h2 => by rw [updL_n h2, updL_n h1, updL_n h2]⟩
    · rw [updL_n (by omega), updL_s, vr, eb]; exact sb.2.2.2.2.1.symm
    · rw [updL_s, vr]; exact sub3650 _ _
