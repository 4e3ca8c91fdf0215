def ent6 (f : Nat → Int32) (b : Nat) (d k c s a h : Int32) : Nat → Int32 := upd (upd (upd (upd (upd (upd f b d) (b + 1) k) (b + 2) c) (b + 3) s) (b + 4) a) (b + 5) h
theorem ent6_at {f : Nat → Int32} {b j : Nat} {d k c s a h : Int32} (hj : j < 6) : ent6 f b d k c s a h (b + j) = ent7 (fun _ => 0) 0 d k c s a h j := by
  unfold ent6 ent7
  rcases (show j = 0 ∨ j = 1 ∨ j = 2 ∨ j = 3 ∨ j = 4 ∨ j = 5 by omega) with rfl | rfl | rfl | rfl | rfl | rfl <;> simp [upd]
theorem ent6_n {f : Nat → Int32} {b j : Nat} {d k c s a h : Int32} (hj : j < b ∨ b + 6 ≤ j) : ent6 f b d k c s a h j = f j := by
  unfold ent6
  rw [upd_n (by omega), upd_n (by omega), upd_n (by omega), upd_n (by omega), upd_n (by omega), upd_n (by omega)]
theorem l_enter {E cf cs : Nat} {ee : Nat → Int32} {mm : Nat → Int64} {qq : Nat → Int32} (h5 : qq 5 = nI E) (hE : E + 1 < 2 ^ 30) (hf : cf < 7) (hs : cs < 7) (k a : Int32) :
    ∃ qq', fL_enter ee mm qq k (nI cf) (nI cs) a = some (ent6 ee (6 * ((E + 1) % 10)) (qq 0) k (nI cf) (nI cs) a (lck (mm 24) (qq 0) k (nI cf) (nI cs) a).toInt32, vp_updL mm 24 (lck (mm 24) (qq 0) k (nI cf) (nI cs) a), qq') ∧ qq' 5 = nI (E + 1) ∧ ∀ j, j ≠ 5 → qq' j = if j = 10 + cf ∨ (j = 10 + cs ∧ 0 < cs) then qq 0 else qq j := by
  have hm : (E + 1) % 10 < 10 := Nat.mod_lt _ (by omega)
  have e6 : (6 : Int32) * (nI (E + 1) - nI (E + 1) / 10 * 10) = nI (6 * ((E + 1) % 10)) := by
    rw [rem10 (by omega)]; exact pk_mul 6 _
  have k24 : ∀ {β : Type} (k : Option β), ckI 24 25 k = k := fun k => ckI_ok (i := 24) (by omega) (by omega)
  have k0 : ∀ {β : Type} (k : Option β), ckI 0 18 k = k := fun k => ckI_ok (i := 0) (by omega) (by omega)
  have k5 : ∀ {β : Type} (k : Option β), ckI 5 18 k = k := fun k => ckI_ok (i := 5) (by omega) (by omega)
  have z0 : (0 : Int32).toNatClampNeg = 0 := rfl
  have z5 : (5 : Int32).toNatClampNeg = 5 := rfl
  have z24 : (24 : Int32).toNatClampNeg = 24 := rfl
  have u5 : ∀ x : Int32, upd qq 5 x 5 = x := fun x => upd_s _ _ _
  have u0 : ∀ x : Int32, upd qq 5 x 0 = qq 0 := fun x => upd_n (by omega)
  have ix : ∀ j : Nat, j < 6 → ∀ {β : Type} (k : Option β), ckI (nI (6 * ((E + 1) % 10)) + nI j) 60 k = k := fun j hj {β} k => by rw [nI_add]; exact ckI_ok (by omega) (by omega)
  have ix0 : ∀ {β : Type} (k : Option β), ckI (nI (6 * ((E + 1) % 10))) 60 k = k := fun k => ckI_ok (by omega) (by omega)
  have ic : ∀ j : Nat, j < 6 → (nI (6 * ((E + 1) % 10)) + nI j).toNatClampNeg = 6 * ((E + 1) % 10) + j := fun j hj => by rw [nI_add, nI_clamp (by omega)]
  have ic0 : (nI (6 * ((E + 1) % 10))).toNatClampNeg = 6 * ((E + 1) % 10) := nI_clamp (by omega)
  have qf : ∀ {β : Type} (k : Option β), ckI (10 + nI cf) 18 k = k := fun k => by
    rw [show (10 : Int32) + nI cf = nI (10 + cf) from nI_add 10 cf]; exact ckI_ok (by omega) (by omega)
  have qfc : ((10 : Int32) + nI cf).toNatClampNeg = 10 + cf := by rw [show (10 : Int32) + nI cf = nI (10 + cf) from nI_add 10 cf, nI_clamp (by omega)]
  have qs : ∀ {β : Type} (k : Option β), ckI (10 + nI cs) 18 k = k := fun k => by
    rw [show (10 : Int32) + nI cs = nI (10 + cs) from nI_add 10 cs]; exact ckI_ok (by omega) (by omega)
  have qsc : ((10 : Int32) + nI cs).toNatClampNeg = 10 + cs := by rw [show (10 : Int32) + nI cs = nI (10 + cs) from nI_add 10 cs, nI_clamp (by omega)]
  have h1 : ∀ {β : Type} (k : Option β), ckI (nI (6 * ((E + 1) % 10)) + 1) 60 k = k := fun k => ix 1 (by omega) k
  have h2 : ∀ {β : Type} (k : Option β), ckI (nI (6 * ((E + 1) % 10)) + 2) 60 k = k := fun k => ix 2 (by omega) k
  have h3 : ∀ {β : Type} (k : Option β), ckI (nI (6 * ((E + 1) % 10)) + 3) 60 k = k := fun k => ix 3 (by omega) k
  have h4 : ∀ {β : Type} (k : Option β), ckI (nI (6 * ((E + 1) % 10)) + 4) 60 k = k := fun k => ix 4 (by omega) k
  have h6 : ∀ {β : Type} (k : Option β), ckI (nI (6 * ((E + 1) % 10)) + 5) 60 k = k := fun k => ix 5 (by omega) k
  have c1 : (nI (6 * ((E + 1) % 10)) + 1).toNatClampNeg = 6 * ((E + 1) % 10) + 1 := ic 1 (by omega)
  have c2 : (nI (6 * ((E + 1) % 10)) + 2).toNatClampNeg = 6 * ((E + 1) % 10) + 2 := ic 2 (by omega)
  have c3 : (nI (6 * ((E + 1) % 10)) + 3).toNatClampNeg = 6 * ((E + 1) % 10) + 3 := ic 3 (by omega)
  have c4 : (nI (6 * ((E + 1) % 10)) + 4).toNatClampNeg = 6 * ((E + 1) % 10) + 4 := ic 4 (by omega)
  have c5 : (nI (6 * ((E + 1) % 10)) + 5).toNatClampNeg = 6 * ((E + 1) % 10) + 5 := ic 5 (by omega)
  have e1 : nI E + 1 = nI (E + 1) := by rw [nI_1]
  have base : fL_enter ee mm qq k (nI cf) (nI cs) a = if nI cs ≤ 0 then some (ent6 ee (6 * ((E + 1) % 10)) (qq 0) k (nI cf) (nI cs) a (lck (mm 24) (qq 0) k (nI cf) (nI cs) a).toInt32, vp_updL mm 24 (lck (mm 24) (qq 0) k (nI cf) (nI cs) a), upd (upd qq 5 (nI (E + 1))) (10 + cf) (qq 0)) else some (ent6 ee (6 * ((E + 1) % 10)) (qq 0) k (nI cf) (nI cs) a (lck (mm 24) (qq 0) k (nI cf) (nI cs) a).toInt32, vp_updL mm 24 (lck (mm 24) (qq 0) k (nI cf) (nI cs) a), upd (upd (upd qq 5 (nI (E + 1))) (10 + cf) (qq 0)) (10 + cs) (upd (upd qq 5 (nI (E + 1))) (10 + cf) (qq 0) 0)) := by
    unfold fL_enter
    simp only [k24, k0, k5, z0, z5, z24, lts, h5, e1, u5, u0, e6, ix0, h1, h2, h3, h4, h6, ic0, c1, c2, c3, c4, c5, qf, qfc, qs, qsc, updL_s]
    rfl
  rw [base]
  by_cases c : cs = 0
  · subst c
    rw [if_pos (show nI 0 ≤ 0 from Int32.le_refl _)]
    refine ⟨_, rfl, ?_, fun j hj => ?_⟩
    · rw [upd_n (by omega), upd_s]
    · by_cases e : j = 10 + cf
      · subst e; rw [upd_s, if_pos (Or.inl rfl)]
      · rw [upd_n e, upd_n hj, if_neg (by omega)]
  · rw [if_neg (show ¬ nI cs ≤ 0 by rw [le_i, nI_toInt (by omega), toInt_0]; omega)]
    refine ⟨_, rfl, ?_, fun j hj => ?_⟩
    · rw [upd_n (by omega), upd_n (by omega), upd_s]
    · by_cases e : j = 10 + cs
      · subst e; rw [upd_s, if_pos (Or.inr ⟨rfl, by omega⟩), upd_n (by omega), upd_n (by omega)]
      · rw [upd_n e]
        by_cases e2 : j = 10 + cf
        · subst e2; rw [upd_s, if_pos (Or.inl rfl)]
        · rw [upd_n e2, upd_n hj, if_neg (by omega)]
