/-! days that pass: holds, and day after day -/
section PS
theorem l_clear_L {qq : Nat → Int32} {day : Int32} (q0 : qq 0 = day) (u0 u7 : Int32) (u5 : Int64) : ∀ (n i : Nat) (hh : Nat → Int32), i ≤ 20 → 20 - i < n → ∃ hh', fL_pass_L91 qq u0 u5 u7 n hh (nI (3 * i)) = some hh' ∧ ∀ k, k < 20 → hh' (3 * k) = (if i ≤ k ∧ hh (3 * k + 2) < day then 0 else hh (3 * k)) ∧ hh' (3 * k + 1) = hh (3 * k + 1) ∧ hh' (3 * k + 2) = hh (3 * k + 2) := by
  intro n
  induction n with
  | zero => intro i hh h1 h2; omega
  | succ n ih =>
    intro i hh h1 h2
    rw [fL_pass_L91]
    by_cases e : i = 20
    · subst e
      rw [if_pos (show (60 : Int32) ≤ nI (3 * 20) by decide)]
      exact ⟨hh, rfl, fun k hk => ⟨by rw [if_neg (by omega)], rfl, rfl⟩⟩
    · have kq : ∀ {β : Type} (k : Option β), ckI 0 18 k = k := fun k => ckI_ok (i := 0) (by omega) (by omega)
      have zq : (0 : Int32).toNatClampNeg = 0 := rfl
      have k0 : ∀ {β : Type} (k : Option β), ckI (nI (3 * i)) 60 k = k := fun k => ckI_ok (by omega) (by omega)
      have k1 : ∀ {β : Type} (k : Option β), ckI (nI (3 * i) + 1) 60 k = k := fun k => by rw [nI_1]; exact ckI_ok (by omega) (by omega)
      have k2 : ∀ {β : Type} (k : Option β), ckI (nI (3 * i) + 2) 60 k = k := fun k => by rw [show nI (3 * i) + 2 = nI (3 * i + 2) from nI_add _ 2]; exact ckI_ok (by omega) (by omega)
      have c0 : (nI (3 * i)).toNatClampNeg = 3 * i := nI_clamp (by omega)
      have c1 : (nI (3 * i) + 1).toNatClampNeg = 3 * i + 1 := by rw [nI_1, nI_clamp (by omega)]
      have c2 : (nI (3 * i) + 2).toNatClampNeg = 3 * i + 2 := by rw [show nI (3 * i) + 2 = nI (3 * i + 2) from nI_add _ 2, nI_clamp (by omega)]
      have e3 : nI (3 * i) + 3 = nI (3 * (i + 1)) := by rw [show nI (3 * i) + 3 = nI (3 * i + 3) from nI_add _ 3, show 3 * i + 3 = 3 * (i + 1) by omega]
      rw [if_neg (show ¬ (60 : Int32) ≤ nI (3 * i) from nI_ge (b := 60) (by omega) (by omega))]
      simp only [k0, k1, k2, c0, c1, c2, e3, lts]
      rw [kq, zq, q0]
      by_cases q : day ≤ hh (3 * i + 2)
      · rw [if_pos q, upd_same]
        obtain ⟨hh', e1, e2⟩ := ih (i + 1) hh (by omega) (by omega)
        refine ⟨hh', e1, fun k hk => ?_⟩
        obtain ⟨f1, f2, f3⟩ := e2 k hk
        refine ⟨?_, f2, f3⟩
        rw [f1]
        by_cases w : k = i
        · subst w
          rw [if_neg (by omega), if_neg (fun z => Int32.not_lt.mpr q z.2)]
        · by_cases v : hh (3 * k + 2) < day
          · by_cases x : i ≤ k
            · rw [if_pos ⟨by omega, v⟩, if_pos ⟨x, v⟩]
            · rw [if_neg (fun z => x (by omega)), if_neg (fun z => x z.1)]
          · rw [if_neg (fun z => v z.2), if_neg (fun z => v z.2)]
      · rw [if_neg q]
        obtain ⟨hh', e1, e2⟩ := ih (i + 1) (upd hh (3 * i) 0) (by omega) (by omega)
        refine ⟨hh', e1, fun k hk => ?_⟩
        obtain ⟨f1, f2, f3⟩ := e2 k hk
        rw [upd_n (by omega)] at f2 f3
        refine ⟨?_, f2, f3⟩
        rw [f1, upd_n (j := 3 * k + 2) (by omega)]
        by_cases w : k = i
        · subst w
          rw [if_neg (by omega), if_pos ⟨Nat.le_refl _, Int32.not_le.mp q⟩, upd_s]
        · rw [upd_n (by omega)]
          by_cases v : hh (3 * k + 2) < day
          · by_cases x : i ≤ k
            · rw [if_pos ⟨by omega, v⟩, if_pos ⟨x, v⟩]
            · rw [if_neg (fun z => x (by omega)), if_neg (fun z => x z.1)]
          · rw [if_neg (fun z => v z.2), if_neg (fun z => v z.2)]
theorem endh_L {la : Int32} {top : Nat} (day : Int32) : ∀ (j n : Nat) (Hsz : Int32) (Hce hh : Nat → Int32), j ≤ 20 → rk (pw hh) j < n → RWB Hsz la Hce hh top → (∀ k, k < 20 → 0 ≤ (hh (3 * k)).toInt) → ∃ Hsz' Hce' hh', fX5_endHoldsThatAreOver_L10 day n Hsz Hce (nI (rk (pw hh) j) - 1) = some (Hsz', Hce') ∧ RWB Hsz' la Hce' hh' top ∧ ∀ k, k < 20 → hh' (3 * k) = (if k < j ∧ hh (3 * k + 2) < day then 0 else hh (3 * k)) ∧ hh' (3 * k + 1) = hh (3 * k + 1) ∧ hh' (3 * k + 2) = hh (3 * k + 2) := by
  intro j
  induction j with
  | zero =>
    intro n Hsz Hce hh h1 h2 hr hn
    obtain ⟨n', en⟩ : ∃ n', n = n' + 1 := ⟨n - 1, by omega⟩
    subst en
    rw [fX5_endHoldsThatAreOver_L10, if_pos (show nI (rk (pw hh) 0) - 1 < 0 from (by decide : nI 0 - 1 < (0 : Int32)))]
    exact ⟨Hsz, Hce, hh, rfl, hr, fun k hk => ⟨by rw [if_neg (by omega)], rfl, rfl⟩⟩
  | succ j ih =>
    intro n Hsz Hce hh h1 h2 hr hn
    cases hp : pw hh j with
    | false =>
      have rf := rk_f hp
      obtain ⟨Hsz', Hce', hh', e1, e2, e3⟩ := ih n Hsz Hce hh (by omega) (by rw [← rf]; exact h2) hr hn
      refine ⟨Hsz', Hce', hh', by rw [rf]; exact e1, e2, fun k hk => ?_⟩
      obtain ⟨f1, f2, f3⟩ := e3 k hk
      refine ⟨?_, f2, f3⟩
      rw [f1]
      by_cases w : k = j
      · subst w
        have h0 : hh (3 * k) = 0 := by
          have a := pw_f hp
          have b := hn k hk
          exact Int32.toInt_inj.mp (by rw [toInt_0]; omega)
        rw [h0]
        split <;> split <;> rfl
      · by_cases v : k < j ∧ hh (3 * k + 2) < day
        · rw [if_pos v, if_pos ⟨by omega, v.2⟩]
        · rw [if_neg v, if_neg (fun z => v ⟨by omega, z.2⟩)]
    | true =>
      have rs := rk_s hp
      have hlt := rk_lt hp (show j < 20 by omega)
      have hR15 := hr.2.1
      obtain ⟨n', en⟩ : ∃ n', n = n' + 1 := ⟨n - 1, by omega⟩
      subst en
      rw [rs, show nI (rk (pw hh) j + 1) - 1 = nI (rk (pw hh) j) from nI_sub (b := 1) (by omega), fX5_endHoldsThatAreOver_L10, if_neg (nI_nl (by omega))]
      have g3 : fX4_get Hsz Hce (nI (rk (pw hh) j)) 3 = _ := rw_get hr (show j < 20 by omega) hp (q := 3) (by omega)
      have zm : nI (rk (pw hh) j) + -1 = nI (rk (pw hh) j) - 1 := by rw [Int32.sub_eq_add_neg]
      rw [g3, bd1_s, (hr.2.2.2.2 j (by omega) hp).2.2.2.2, zm]
      by_cases q : day ≤ hh (3 * j + 2)
      · rw [if_pos q]
        obtain ⟨Hsz', Hce', hh', e1, e2, e3⟩ := ih n' Hsz Hce hh (by omega) (by omega) hr hn
        refine ⟨Hsz', Hce', hh', e1, e2, fun k hk => ?_⟩
        obtain ⟨f1, f2, f3⟩ := e3 k hk
        refine ⟨?_, f2, f3⟩
        rw [f1]
        by_cases w : k = j
        · subst w
          rw [if_neg (fun z => Nat.lt_irrefl _ z.1), if_neg (fun z => Int32.not_lt.mpr q z.2)]
        · by_cases v : k < j ∧ hh (3 * k + 2) < day
          · rw [if_pos v, if_pos ⟨by omega, v.2⟩]
          · rw [if_neg v, if_neg (fun z => v ⟨by omega, z.2⟩)]
      · rw [if_neg q]
        have n0 : upd hh (3 * j) 0 (3 * j) = 0 := upd_s _ _ _
        have no : ∀ k, k < 20 → k ≠ j → upd hh (3 * j) 0 (3 * k) = hh (3 * k) ∧ upd hh (3 * j) 0 (3 * k + 1) = hh (3 * k + 1) ∧ upd hh (3 * j) 0 (3 * k + 2) = hh (3 * k + 2) := fun k hk hne => by
          refine ⟨?_, ?_, ?_⟩ <;> rw [upd_n (by omega)]
        obtain ⟨sz', ce', m1, m2, m3⟩ := rw_remove hr (show j < 20 by omega) hp (hh' := upd hh (3 * j) 0) (by rw [n0, toInt_0]) no
        have hQ : rk (pw (upd hh (3 * j) 0)) j = rk (pw hh) j := rk_cong j (fun k hk => by unfold pw; rw [(no k (by omega) (by omega)).1])
        obtain ⟨Hsz', Hce', hh', e1, e2, e3⟩ := ih n' sz' ce' (upd hh (3 * j) 0) (by omega) (by rw [hQ]; omega) m2 (fun k hk => by
          by_cases w : k = j
          · subst w; rw [n0, toInt_0]; exact Int.le_refl _
          · rw [(no k hk w).1]; exact hn k hk)
        rw [hQ] at e1
        refine ⟨Hsz', Hce', hh', by rw [m1, bd2_s]; exact e1, e2, fun k hk => ?_⟩
        obtain ⟨f1, f2, f3⟩ := e3 k hk
        by_cases w : k = j
        · subst w
          rw [n0] at f1
          rw [upd_n (by omega)] at f2 f3
          refine ⟨?_, f2, f3⟩
          rw [f1, if_neg (fun z => Nat.lt_irrefl _ z.1), if_pos ⟨Nat.lt_succ_self _, Int32.not_le.mp q⟩]
        · obtain ⟨o1, o2, o3⟩ := no k hk w
          rw [o1, o3] at f1
          rw [o2] at f2
          rw [o3] at f3
          refine ⟨?_, f2, f3⟩
          rw [f1]
          by_cases v : k < j ∧ hh (3 * k + 2) < day
          · rw [if_pos v, if_pos ⟨by omega, v.2⟩]
          · rw [if_neg v, if_neg (fun z => v ⟨by omega, z.2⟩)]
variable {lim low hig thr : Int32} {t d0 : Nat}
theorem pass_b (hg : RG lim low hig thr) (ht : t ≤ 9000) {Asz : Int32} {Anu : Nat → Int32} {P : Nat → Bool} (u3 : Int64) : ∀ (m d D0 E zc kx km : Nat) (Aba Amo : Nat → Int32) (Acx Acv : Nat → Int64) (Tma Tlc : Int32) (Ttc : Nat → Int32) (cre : Int64) (ee : Nat → Int32) (mm : Nat → Int64) (qq hh : Nat → Int32) (zs : Int64), pq qq = P → d + m = t → d0 ≤ d → D0 ≤ d → d < zc → zc % 30 = 0 → zc ≤ d + 30 → m < kx → m < km → E + 7 * m < 2 ^ 28 → QB d lim low hig thr qq → CLB Asz Anu Aba Amo mm qq → CTB Acv mm qq → CIB d mm qq → TRB E Tma Tlc Ttc mm qq ee → (∀ c, c < 7 → P c = true → Acv (rk P c) = Acx (rk P c) + growL lim low hig (Aba (rk P c)) * (nI d - nI D0).toInt64) → (∀ k, k < 20 → 0 ≤ (hh (3 * k)).toInt ∧ (pw hh k = true → (d : Int) ≤ (hh (3 * k + 2)).toInt)) →
    ∃ Aba' Amo' Acx' Acv' T2 T3 cre' D0' E' ee' mm' qq' hh' s, fX5_letPass_L48 Asz Anu lim low hig thr (nI t) u3 kx Aba Amo Acx Tma Tlc Ttc (nI D0) cre (nI zc) = some (Aba', Amo', Acx', nI E', T2, T3, nI D0', cre') ∧ fL_pass_L6 (nI (t - d0)) km ee mm qq hh zs (nI (d - d0)) = some (ee', mm', qq', hh', zs + s) ∧ cre' = cre + s ∧ D0' ≤ t ∧ pq qq' = P ∧ E' ≤ E + 7 * m ∧ QB t lim low hig thr qq' ∧ CLB Asz Anu Aba' Amo' mm' qq' ∧ CTB Acv' mm' qq' ∧ CIB t mm' qq' ∧ TRB E' (nI E') T2 T3 mm' qq' ee' ∧ (∀ c, c < 7 → P c = true → Acv' (rk P c) = Acx' (rk P c) + growL lim low hig (Aba' (rk P c)) * (nI t - nI D0').toInt64) ∧ (∀ k, k < 20 → hh' (3 * k) = (if hh (3 * k + 2) < nI t then 0 else hh (3 * k)) ∧ hh' (3 * k + 1) = hh (3 * k + 1) ∧ hh' (3 * k + 2) = hh (3 * k + 2)) ∧ (∀ j, 17 ≤ j → j < 24 → mm' j = mm j) ∧ (∀ j, j ≠ 0 → j ≠ 5 → j < 10 → qq' j = qq j) ∧ (∀ c, c < 7 → P c = true → (mm c).toInt ≤ (mm' c).toInt) ∧ sumC P mm' 7 = sumC P mm 7 + s := by
  intro m
  induction m with
  | zero =>
    intro d D0 E zc kx km Aba Amo Acx Acv Tma Tlc Ttc cre ee mm qq hh zs h0 h1 h2 h3 h4 h5 h6 h7 h8 h9 hq hc hct hci htr hA hH
    obtain ⟨a, ea⟩ : ∃ a, kx = a + 1 := ⟨kx - 1, by omega⟩
    obtain ⟨b, eb⟩ : ∃ b, km = b + 1 := ⟨km - 1, by omega⟩
    have ed : d = t := by omega
    subst ea; subst eb; subst ed
    rw [fX5_letPass_L48, fL_pass_L6, if_pos (show nI d < nI zc from (nI_ltI (by omega) (by omega)).mpr h4), if_pos (nI_le (by omega) (by omega))]
    have tm := htr.1
    refine ⟨Aba, Amo, Acx, Acv, Tlc, Ttc, cre, D0, E, ee, mm, qq, hh, 0, by rw [tm], by rw [Int64.add_zero], by rw [Int64.add_zero], h3, h0, by omega, hq, hc, hct, hci, by rw [← tm]; exact htr, hA, fun k hk => ⟨?_, rfl, rfl⟩, fun _ _ _ => rfl, fun _ _ _ _ => rfl, fun _ _ _ => Int.le_refl _, by rw [Int64.add_zero]⟩
    obtain ⟨w1, w2⟩ := hH k hk
    by_cases q : hh (3 * k + 2) < nI d
    · rw [if_pos q]
      cases hp : pw hh k with
      | false =>
        have := pw_f hp
        exact Int32.toInt_inj.mp (by rw [toInt_0]; omega)
      | true =>
        have := w2 hp
        rw [lt_i, nI_toInt (by omega)] at q
        omega
    · rw [if_neg q]
  | succ m ih =>
    intro d D0 E zc kx km Aba Amo Acx Acv Tma Tlc Ttc cre ee mm qq hh zs h0 h1 h2 h3 h4 h5 h6 h7 h8 h9 hq hc hct hci htr hA hH
    obtain ⟨b, eb⟩ : ∃ b, km = b + 1 := ⟨km - 1, by omega⟩
    subst eb
    have hR7 := rk_bd P 7
    have hz : Asz = nI (rk P 7) := by rw [hc.1, h0]
    have k0 : ∀ {β : Type} (k : Option β), ckI 0 18 k = k := fun k => ckI_ok (i := 0) (by omega) (by omega)
    have z0 : (0 : Int32).toNatClampNeg = 0 := rfl
    have ejj : nI (d - d0) + 1 = nI (d + 1 - d0) := by rw [nI_1]; exact congrArg nI (by omega)
    rw [fL_pass_L6, if_neg (nI_ge (by omega) (by omega)), k0, k0, lts, z0, hq.1, nI_1]
    -- the book on the new day
    have o1 : ∀ j, j ≠ 0 → upd qq 0 (nI (d + 1)) j = qq j := fun j hj => upd_n hj
    have hq1 : QB (d + 1) lim low hig thr (upd qq 0 (nI (d + 1))) := ⟨upd_s _ _ _, by rw [o1 1 (by omega)]; exact hq.2.1, by rw [o1 2 (by omega)]; exact hq.2.2.1, by rw [o1 3 (by omega)]; exact hq.2.2.2.1, by rw [o1 4 (by omega)]; exact hq.2.2.2.2⟩
    have hp1 : pq (upd qq 0 (nI (d + 1))) = P := by rw [pq_upd (by omega)]; exact h0
    have hc1 : CLB Asz Anu Aba Amo mm (upd qq 0 (nI (d + 1))) := CLB_qq hc (fun j hj => o1 j (by omega))
    have ht1 : TRB E Tma Tlc Ttc mm (upd qq 0 (nI (d + 1))) ee := by
      obtain ⟨w1, w2, w3⟩ := htr
      exact ⟨w1, by rw [o1 5 (by omega)]; exact w2, w3⟩
    have hrange : ∀ c, c < 7 → P c = true → (0 ≤ (mm c).toInt ∧ (mm c).toInt ≤ 1000000000) ∧ (0 ≤ (mm (10 + c)).toInt ∧ (mm (10 + c)).toInt ≤ 2000000000000 * (d : Int)) := fun c c1 hpc => by
      have := hci c c1 (by rw [h0]; exact hpc)
      exact ⟨⟨this.1, this.2.1⟩, this.2.2.1, this.2.2.2⟩
    -- the holds of the day
    have clear : ∀ (qq1 : Nat → Int32) (x : Int64), qq1 0 = nI (d + 1) → ∃ hh1, fL_pass_L91 qq1 (nI (t - d0)) x (nI (d - d0)) 2147483648 hh 0 = some hh1 ∧ (∀ k, k < 20 → hh1 (3 * k) = (if hh (3 * k + 2) < nI (d + 1) then 0 else hh (3 * k)) ∧ hh1 (3 * k + 1) = hh (3 * k + 1) ∧ hh1 (3 * k + 2) = hh (3 * k + 2)) ∧ (∀ k, k < 20 → 0 ≤ (hh1 (3 * k)).toInt ∧ (pw hh1 k = true → ((d + 1 : Nat) : Int) ≤ (hh1 (3 * k + 2)).toInt)) := by
      intro qq1 x e0
      obtain ⟨hh1, c1, c2⟩ := l_clear_L e0 (nI (t - d0)) (nI (d - d0)) x 2147483648 0 hh (by omega) (by omega)
      have c3 : ∀ k, k < 20 → hh1 (3 * k) = (if hh (3 * k + 2) < nI (d + 1) then 0 else hh (3 * k)) ∧ hh1 (3 * k + 1) = hh (3 * k + 1) ∧ hh1 (3 * k + 2) = hh (3 * k + 2) := fun k hk => by
        obtain ⟨f1, f2, f3⟩ := c2 k hk
        refine ⟨?_, f2, f3⟩
        rw [f1]
        by_cases v : hh (3 * k + 2) < nI (d + 1)
        · rw [if_pos v, if_pos ⟨Nat.zero_le _, v⟩]
        · rw [if_neg v, if_neg (fun z => v z.2)]
      refine ⟨hh1, c1, c3, fun k hk => ?_⟩
      obtain ⟨f1, f2, f3⟩ := c3 k hk
      rw [f1, f3]
      by_cases v : hh (3 * k + 2) < nI (d + 1)
      · rw [if_pos v, toInt_0]
        refine ⟨Int.le_refl _, fun z => ?_⟩
        have := pw_t z
        rw [f1, if_pos v, toInt_0] at this
        omega
      · rw [if_neg v]
        refine ⟨(hH k hk).1, fun z => ?_⟩
        rw [lt_i, nI_toInt (by omega)] at v
        omega
    have compose : ∀ (hh1 hh2 : Nat → Int32), (∀ k, k < 20 → hh1 (3 * k) = (if hh (3 * k + 2) < nI (d + 1) then 0 else hh (3 * k)) ∧ hh1 (3 * k + 1) = hh (3 * k + 1) ∧ hh1 (3 * k + 2) = hh (3 * k + 2)) → (∀ k, k < 20 → hh2 (3 * k) = (if hh1 (3 * k + 2) < nI t then 0 else hh1 (3 * k)) ∧ hh2 (3 * k + 1) = hh1 (3 * k + 1) ∧ hh2 (3 * k + 2) = hh1 (3 * k + 2)) → ∀ k, k < 20 → hh2 (3 * k) = (if hh (3 * k + 2) < nI t then 0 else hh (3 * k)) ∧ hh2 (3 * k + 1) = hh (3 * k + 1) ∧ hh2 (3 * k + 2) = hh (3 * k + 2) := by
      intro hh1 hh2 e1 e2 k hk
      obtain ⟨f1, f2, f3⟩ := e1 k hk
      obtain ⟨g1, g2, g3⟩ := e2 k hk
      refine ⟨?_, by rw [g2, f2], by rw [g3, f3]⟩
      rw [g1, f3, f1]
      by_cases v : hh (3 * k + 2) < nI t
      · rw [if_pos v, if_pos v]
      · rw [if_neg v, if_neg v, if_neg (fun z => v (by rw [lt_i, nI_toInt (by omega)] at z ⊢; omega))]
    by_cases q : (d + 1) % 30 = 0
    · have ez : zc = d + 1 := by omega
      subst ez
      obtain ⟨a, ea⟩ : ∃ a, kx = a + 1 := ⟨kx - 1, by omega⟩
      subst ea
      obtain ⟨Acg, g1, g2⟩ := grow_i (C := rk P 7) (by omega) Aba Acx (nI D0) lim low hig (nI (d + 1))
      obtain ⟨E', Aba', Amo', Aco', T2, T3, ee', mm', qq', s, a1, a2, a3, a4, a5, a6, a7, a8, a9, a10, a11, a12⟩ := credit_b hg (show d ≤ 9000 by omega) (nI (t - d0)) (nI (d - d0)) q 2147483648 2147483648 1 E Aba Amo Acg Tma Tlc Ttc cre ee mm (upd qq 0 (nI (d + 1))) zs hp1 (by omega) (by omega) (by omega) (by omega) (by omega) hq1 hc1 ht1 (fun c c1 hpc => by
        have hne := pq_ne hc c1 (by rw [h0]; exact hpc)
        rw [if_neg (by omega), g2, if_pos (rk_lt hpc c1), gapS h3 (by omega), ← Int64.add_assoc, ← hA c c1 hpc]
        have := hct c c1 (by rw [h0]; exact hpc)
        rw [h0] at this
        rw [this]) (fun c c1 hpc => by
        have hne := pq_ne hc c1 (by rw [h0]; exact hpc)
        rw [if_neg (by omega)]
        exact hrange c c1 hpc)
      have r1 : rk P 1 = 0 := by
        have hp0 : P 0 = false := by rw [← h0]; exact hc.2.1
        exact rk_f hp0
      rw [r1] at a1
      have a1 : fX5_creditAll_L2 Asz Anu (nI (d + 1)) thr 2147483648 Aba Amo Acg Tma Tlc Ttc cre 0 = _ := a1
      have hq' : QB (d + 1) lim low hig thr qq' := ⟨by rw [a10 0 (by omega) (by omega)]; exact hq1.1, by rw [a10 1 (by omega) (by omega)]; exact hq1.2.1, by rw [a10 2 (by omega) (by omega)]; exact hq1.2.2.1, by rw [a10 3 (by omega) (by omega)]; exact hq1.2.2.2.1, by rw [a10 4 (by omega) (by omega)]; exact hq1.2.2.2.2⟩
      obtain ⟨hh1, c1, c2, c3⟩ := clear qq' (zs + s) hq'.1
      have a2 : fL_pass_L22 (nI (t - d0)) (nI (d - d0)) 2147483648 ee mm (upd qq 0 (nI (d + 1))) zs 1 = _ := a2
      rw [a2, bd4_s, c1, bd1_s, ejj]
      obtain ⟨Aba2, Amo2, Acx2, Acv2, U2, U3, cre2, D2, E2, ee2, mm2, qq2, hh2, s2, b1, b2, b3, b4, b5, b6, b7, b8, b9, b10, b11, b12, b13, b14, b15, b16, b17⟩ := ih (d + 1) (d + 1) E' (d + 1 + 30) a b Aba' Amo' Aco' Aco' (nI E') T2 T3 (cre + s) ee' mm' qq' hh1 (zs + s) a3 (by omega) (by omega) (by omega) (by omega) (by omega) (by omega) (by omega) (by omega) (by omega) hq' a5 a7 a8 a6 (fun c _ _ => by rw [gap0]) c3
      refine ⟨Aba2, Amo2, Acx2, Acv2, U2, U3, cre2, D2, E2, ee2, mm2, qq2, hh2, s + s2, ?_, by rw [b2, Int64.add_assoc], by rw [b3, Int64.add_assoc], b4, b5, by omega, b7, b8, b9, b10, b11, b12, compose hh1 hh2 c2 b13, fun j j1 j2 => by rw [b14 j j1 j2, a9 j j1 j2], fun j j0 j1 j2 => by rw [b15 j j0 j1 j2, a10 j j1 j2, o1 j j0], fun c c4 hpc => Int.le_trans (a11 c c4 hpc) (b16 c c4 hpc), by rw [b17, a12, Int64.add_assoc]⟩
      rw [fX5_letPass_L48, if_neg (fun z => by have := (nI_ltI (by omega) (by omega)).mp z; omega), hz, g1, bd2_s, ← hz]
      unfold fX5_creditAll
      rw [a1, bd7_s, bd7_s, show nI (d + 1) + 30 = nI (d + 1 + 30) from nI_add _ 30]
      exact b1
    · obtain ⟨mm', a1, a2, a3⟩ := plain_b (ee := ee) hg (show d ≤ 9000 by omega) (nI (t - d0)) (nI (d - d0)) hq1 q 2147483648 1 mm zs (by omega) (by omega) (by omega) hc1 (fun c _ c1 hpc => hrange c c1 (by rw [hp1] at hpc; exact hpc))
      obtain ⟨hh1, c1, c2, c3⟩ := clear (upd qq 0 (nI (d + 1))) zs hq1.1
      have a1 : fL_pass_L22 (nI (t - d0)) (nI (d - d0)) 2147483648 ee mm (upd qq 0 (nI (d + 1))) zs 1 = _ := a1
      rw [a1, bd4_s, c1, bd1_s, ejj]
      have ht2 : TRB E Tma Tlc Ttc mm' (upd qq 0 (nI (d + 1))) ee := by
        obtain ⟨w1, w2, w3, w4⟩ := ht1
        exact ⟨w1, w2, by rw [a2 24 (by omega)]; exact w3, w4⟩
      have cnt : ∀ c, c < 7 → P c = true → mm' (10 + c) = mm (10 + c) + growL lim low hig (Aba (rk P c)) := fun c c1 hpc => by
        have hne := pq_ne hc c1 (by rw [h0]; exact hpc)
        have := a3 c c1 (by rw [hp1]; exact hpc)
        rw [if_pos (by omega), hp1] at this
        exact this
      obtain ⟨Aba2, Amo2, Acx2, Acv2, U2, U3, cre2, D2, E2, ee2, mm2, qq2, hh2, s2, b1, b2, b3, b4, b5, b6, b7, b8, b9, b10, b11, b12, b13, b14, b15, b16, b17⟩ := ih (d + 1) D0 E zc kx b Aba Amo Acx (fun i => Acv i + growL lim low hig (Aba i)) Tma Tlc Ttc cre ee mm' (upd qq 0 (nI (d + 1))) hh1 zs hp1 (by omega) (by omega) (by omega) (by omega) (by omega) (by omega) (by omega) (by omega) (by omega) hq1 (CLB_ext hc1 (fun c c1 => a2 c (by omega))) (fun c c1 hpc => by
        rw [hp1] at hpc ⊢
        show Acv (rk P c) + growL lim low hig (Aba (rk P c)) = _
        have := hct c c1 (by rw [h0]; exact hpc)
        rw [h0] at this
        rw [this, cnt c c1 hpc]) (fun c c1 hpc => by
        rw [hp1] at hpc
        have r := hrange c c1 hpc
        have g1 := hc.2.2.2 c c1 (by rw [h0]; exact hpc)
        rw [h0] at g1
        have bz : 0 ≤ (Aba (rk P c)).toInt ∧ (Aba (rk P c)).toInt ≤ 1000000000 := by rw [← up64, g1.2.1]; exact r.1
        have sb := (sR_b (next := 1) (thr := thr) hg (show d ≤ 11000 by omega) bz r.2).1
        rw [a2 c (by omega), cnt c c1 hpc]
        push_cast
        exact ⟨r.1.1, r.1.2, sb.1, sb.2⟩) ht2 (fun c c1 hpc => by
        show Acv (rk P c) + growL lim low hig (Aba (rk P c)) = _
        rw [hA c c1 hpc, gapS h3 (by omega), Int64.add_assoc]) c3
      have e7 : ∀ c, c < 7 → mm' c = mm c := fun c c1 => a2 c (by omega)
      refine ⟨Aba2, Amo2, Acx2, Acv2, U2, U3, cre2, D2, E2, ee2, mm2, qq2, hh2, s2, b1, b2, b3, b4, b5, by omega, b7, b8, b9, b10, b11, b12, compose hh1 hh2 c2 b13, fun j j1 j2 => by rw [b14 j j1 j2, a2 j (by omega)], fun j j0 j1 j2 => by rw [b15 j j0 j1 j2, o1 j j0], fun c c4 hpc => by have := b16 c c4 hpc; rw [e7 c c4] at this; exact this, ?_⟩
      rw [b17]
      exact congrArg (· + s2) (sumC_cong 7 (fun i hi => ⟨rfl, fun _ => e7 i hi⟩))
end PS
