/-! the pure side, zb: the digest, the trail -/
theorem dg_tr_in {E e : Nat} (hE : E < 2 ^ 30) {ma lc : Int32} {tc st : Nat → Int32} (h : TRr E ma lc tc st) (h1 : 1 ≤ e) (h2 : e ≤ E) (h3 : E < e + 24) (hkp : fX6_keeps ma (nI e) = some 1) (hm : fX8_isEntry st (nI e) = some 1) (u : Int32) : ∀ (k z : Nat) (a : Int64), z ≤ 7 → 7 - z < k → ∃ r, fX7_hashOfTrail_L51 ma tc u (nI e) k a (nI z) = some r ∧ fX8_digest_L202 st (nI e) k a (nI z) = some r := by
  intro k
  induction k with
  | zero => intro z a h1 h2; omega
  | succ k ih =>
    intro z a g1 g2
    rw [fX7_hashOfTrail_L51, fX8_digest_L202]
    by_cases q : z = 7
    · subst q
      rw [if_pos (by decide), if_pos (by decide)]
      exact ⟨a, rfl, rfl⟩
    · have n6 : ¬ (6 : Int32) < nI z := fun w => by rw [lt_i, nI_toInt (by omega), show (6 : Int32).toInt = 6 from rfl] at w; omega
      obtain ⟨x, m⟩ := ent_both (k := z) hE h h1 h2 h3 (by omega) hkp
      rw [if_neg n6, if_neg n6, x, bd1_s, hm, bd1_s, if_neg n10, m, bd1_s, lts, lts, nI_1]
      exact ih (z + 1) _ (by omega) (by omega)
theorem dg_skip {E : Nat} (hE : E < 2 ^ 30) {st : Nat → Int32} (h10 : st 10 = nI E) (a : Int64) : ∀ (j k : Nat), j = 0 ∨ j + 24 ≤ E → fX8_digest_L188 st (k + j) a (nI 1) = fX8_digest_L188 st k a (nI (1 + j)) := by
  intro j
  induction j with
  | zero => intro k _; rfl
  | succ j ih =>
    intro k hj
    rw [show k + (j + 1) = k + 1 + j by omega, ih (k + 1) (by omega), fX8_digest_L188, show ckI 10 336 _ = _ from ckI_ok (i := 10) (by omega) (by omega), show (10 : Int32).toNatClampNeg = 10 from rfl, h10, if_neg (by rw [lt_i, nI_toInt (by omega), nI_toInt (by omega)]; omega)]
    have en : fX8_isEntry st (nI (1 + j)) = some 0 := by
      rw [isEntry_i hE h10, if_neg (by rw [nI_toInt (by omega)]; omega)]
    rw [show (2147483648 : Nat) = 2147483647 + 1 from rfl, fX8_digest_L202, if_neg (by decide), en, bd1_s, if_pos rfl, bd1_s, nI_1]
    rfl
theorem dg_trail_L {E : Nat} (hE : E < 2 ^ 30) {ma lc : Int32} {tc st : Nat → Int32} (h : TRr E ma lc tc st) : ∀ (k km z : Nat) (a : Int64), z ≤ 24 → z < k → z < km → ∃ r, fX7_hashOfTrail_L25 ma tc k a (nI z - 1) = some r ∧ fX8_digest_L188 st km a (nI (max 1 (E + 1 - z))) = some r := by
  have hma := h.1.1
  have h10 := h.1.2.1
  intro k
  induction k with
  | zero => intro km z a h1 h2; omega
  | succ k ih =>
    intro km z a h1 h2 h3
    rw [fX7_hashOfTrail_L25]
    by_cases e : z = 0
    · subst e
      obtain ⟨y, ey⟩ : ∃ y, km = y + 1 := ⟨km - 1, by omega⟩
      subst ey
      rw [if_pos (show nI 0 - 1 < 0 by decide), fX8_digest_L188, show ckI 10 336 _ = _ from ckI_ok (i := 10) (by omega) (by omega), show (10 : Int32).toNatClampNeg = 10 from rfl, h10, if_pos (by rw [lt_i, nI_toInt (by omega), nI_toInt (by omega)]; omega)]
      exact ⟨a, rfl, rfl⟩
    · obtain ⟨q, eq⟩ : ∃ q, z = q + 1 := ⟨z - 1, by omega⟩
      subst eq
      have ez : nI (q + 1) - 1 = nI q := nI_sub (a := q + 1) (b := 1) (by omega)
      have ez' : nI q + -1 = nI q - 1 := by rw [Int32.sub_eq_add_neg]
      rw [ez, if_neg (nI_nl (by omega)), lts, hma]
      have tx : (nI E - nI q).toInt = (E : Int) - q := by rw [sub_toInt (by rw [nI_toInt (by omega), nI_toInt (by omega)]; omega) (by rw [nI_toInt (by omega), nI_toInt (by omega)]; omega), nI_toInt (by omega), nI_toInt (by omega)]
      by_cases c : q < E
      · obtain ⟨y, ey⟩ : ∃ y, km = y + 1 := ⟨km - 1, by omega⟩
        subst ey
        have ee : nI E - nI q = nI (E - q) := nI_sub (by omega)
        have me : max 1 (E + 1 - (q + 1)) = E - q := by omega
        have kx : fX6_keeps (nI E) (nI (E - q)) = some 1 := by rw [keeps_i hE, if_pos (by rw [nI_toInt (by omega)]; omega)]
        have km' : fX8_isEntry st (nI (E - q)) = some 1 := by rw [isEntry_i hE h10, if_pos (by rw [nI_toInt (by omega)]; omega)]
        obtain ⟨r, r1, r2⟩ := dg_tr_in hE h (e := E - q) (by omega) (by omega) (by omega) (by rw [hma]; exact kx) km' (nI q) 2147483648 0 a (by omega) (by omega)
        rw [nI_0, hma] at r1
        rw [nI_0] at r2
        rw [ee, kx, bd1_s, if_neg n10, r1, bd1_s, me, fX8_digest_L188, show ckI 10 336 _ = _ from ckI_ok (i := 10) (by omega) (by omega), show (10 : Int32).toNatClampNeg = 10 from rfl, h10, if_neg (by rw [lt_i, nI_toInt (by omega), nI_toInt (by omega)]; omega), r2, bd1_s, nI_1, ez', show E - q + 1 = max 1 (E + 1 - q) by omega, ← hma]
        exact ih y q r (by omega) (by omega) (by omega)
      · have kx : fX6_keeps (nI E) (nI E - nI q) = some 0 := by rw [keeps_i hE, if_neg (by rw [tx]; omega)]
        rw [kx, bd1_s, if_pos rfl, ez', show max 1 (E + 1 - (q + 1)) = max 1 (E + 1 - q) by omega, ← hma]
        exact ih km q a (by omega) (by omega) (by omega)
