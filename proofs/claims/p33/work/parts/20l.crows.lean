/-! the law's acts: holds and bills -/
def put3 (hh : Nat → Int32) (t : Nat) (x y z : Int32) : Nat → Int32 := upd (upd (upd hh (3 * t) x) (3 * t + 1) y) (3 * t + 2) z
theorem put3_0 {hh : Nat → Int32} {t : Nat} {x y z : Int32} : put3 hh t x y z (3 * t) = x := by unfold put3; rw [upd_n (by omega), upd_n (by omega), upd_s]
theorem put3_1 {hh : Nat → Int32} {t : Nat} {x y z : Int32} : put3 hh t x y z (3 * t + 1) = y := by unfold put3; rw [upd_n (by omega), upd_s]
theorem put3_2 {hh : Nat → Int32} {t : Nat} {x y z : Int32} : put3 hh t x y z (3 * t + 2) = z := by unfold put3; rw [upd_s]
theorem put3_o {hh : Nat → Int32} {t k : Nat} {x y z : Int32} (h : k ≠ t) : put3 hh t x y z (3 * k) = hh (3 * k) ∧ put3 hh t x y z (3 * k + 1) = hh (3 * k + 1) ∧ put3 hh t x y z (3 * k + 2) = hh (3 * k + 2) := by
  unfold put3
  refine ⟨?_, ?_, ?_⟩ <;> rw [upd_n (by omega), upd_n (by omega), upd_n (by omega)]
theorem sumZ_put {t u : Nat → Bool} {a b : Nat → Int32} {g : Nat} {v : Int} (ht : t g = false) (hg : (if u g then (b g).toInt else 0) = v) (ho : ∀ k, k ≠ g → u k = t k ∧ b k = a k) : ∀ n, g < n → sumZ u b n = sumZ t a n + v
  | 0, h => absurd h (Nat.not_lt_zero _)
  | n + 1, h => by
    rw [sumZ_s, sumZ_s]
    by_cases e : n = g
    · subst e
      rw [sumZ_cong (u := t) (b := a) n (fun i hi => ⟨(ho i (by omega)).1, fun _ => (ho i (by omega)).2⟩)]
      rw [ht, ← hg]
      cases u n with
      | true => simp
      | false => simp
    · have ih := sumZ_put ht hg ho n (by omega)
      rw [ih, (ho n e).1, (ho n e).2]
      cases t n with
      | true => simp; omega
      | false => simp
theorem sumZ_le {t u : Nat → Bool} {a : Nat → Int32} : ∀ n, (∀ k, k < n → 0 ≤ (a k).toInt ∧ (u k = true → t k = true)) → sumZ u a n ≤ sumZ t a n
  | 0, _ => Int.le_refl _
  | n + 1, h => by
    have ih := sumZ_le n (fun k hk => h k (by omega))
    obtain ⟨h1, h2⟩ := h n (by omega)
    rw [sumZ_s, sumZ_s]
    cases c : u n with
    | true => rw [h2 c]; simp; omega
    | false =>
      cases t n with
      | true => simp; omega
      | false => simp; exact ih
theorem pq_upd {qq : Nat → Int32} {j : Nat} (hj : j < 10) (x : Int32) : pq (upd qq j x) = pq qq := pq_cong fun k hk => upd_n (by omega)
theorem RIB_put {hh qq : Nat → Int32} (hi : RIB hh qq) {t c : Nat} (ht : t < 20) (hc : c < 7) (h1 : 1 ≤ c) (hp : pq qq c = true) {a d : Int32} (ha : 1 ≤ a.toInt ∧ a.toInt ≤ 100000000) : RIB (put3 hh t (nI c) a d) qq := by
  intro k hk
  by_cases e : k = t
  · subst e
    rw [put3_0, put3_1, nI_toInt (by omega)]
    exact ⟨by omega, by omega, fun _ => ⟨by omega, c, hc, hp, rfl⟩⟩
  · obtain ⟨o1, o2, o3⟩ := put3_o (hh := hh) (x := nI c) (y := a) (z := d) e
    have g := hi k hk
    have : pw (put3 hh t (nI c) a d) k = pw hh k := by unfold pw; rw [o1]
    rw [o1, o2, this]
    exact g
theorem hz_put {hh : Nat → Int32} {t c : Nat} (ht : t < 20) (hpn : pw hh t = false) (hc : c < 7) {a d : Int32} {b : Nat} (hb : b < 7) (hb1 : 1 ≤ b) : hz (put3 hh t (nI c) a d) b = hz hh b + (if b = c then a.toInt else 0) := by
  refine sumZ_put (g := t) (slt_ne hpn hb1 (by omega)) ?_ (fun k hk => ?_) 20 ht
  · show (if decide (put3 hh t (nI c) a d (3 * t) = nI b) = true then (put3 hh t (nI c) a d (3 * t + 1)).toInt else 0) = _
    rw [put3_0, put3_1]
    by_cases e : b = c
    · subst e; simp
    · rw [if_neg e, if_neg]
      intro q
      exact e (nI_inj (by omega) (by omega) (of_decide_eq_true q)).symm
  · obtain ⟨o1, o2, o3⟩ := put3_o (hh := hh) (x := nI c) (y := a) (z := d) hk
    exact ⟨by show decide (put3 hh t (nI c) a d (3 * k) = nI b) = _; rw [o1], o2⟩
theorem top_free {sz la : Int32} {ce hh : Nat → Int32} {top : Nat} (h : RWB sz la ce hh top) (ht : top < 20) : pw hh top = false := by
  cases q : pw hh top with
  | false => rfl
  | true => have := (h.2.2.2.2 top ht q).1; omega
section CRW
variable {n E dn t1 t2 : Nat} {Asz : Int32} {Anu : Nat → Int32} {Aba : Nat → Int32} {Amo : Nat → Int32} {Aco : Nat → Int64} {Hsz : Int32} {Hla : Int32} {Hce : Nat → Int32} {Bsz : Int32} {Bla : Int32} {Bce : Nat → Int32} {Tma : Int32} {Tlc : Int32} {Ttc : Nat → Int32} {day : Int32} {lim : Int32} {low : Int32} {hig : Int32} {thr : Int32} {off : Int64} {cre : Int64} {rcp : Int64} {pay : Int64} {ee : Nat → Int32} {mm : Nat → Int64} {qq : Nat → Int32} {hh : Nat → Int32} {bb : Nat → Int32} {sv : Int32} {nx : Int32} {SL : Nat → XS} {rec : (Nat → Int32) → (Nat → Int64) → (Nat → Int32) → (Nat → Int32) → (Nat → Int32) → Int32 → (Nat → Int32) → (Nat → Int32) → Int32 → (Nat → Int32) → (Nat → Int32) → (Nat → Int32) → (Nat → Int64) → Int32 → Int32 → (Nat → Int32) → Int32 → Int32 → (Nat → Int32) → Int32 → Int32 → (Nat → Int32) → Int32 → Int32 → Int32 → Int32 → Int32 → Int64 → Int64 → Int64 → Int64 → Int32 → Int32 → (Nat → XS) → Int32 → Int32 → Option (Int32 ⊕ Unit)}
theorem hold_x (h : PRc E dn t1 t2 Asz Anu Aba Amo Aco Hsz Hla Hce Bsz Bla Bce Tma Tlc Ttc day lim low hig thr off cre rcp pay ee mm qq hh bb) (hdn : dn ≤ 2800) (ht : t1 < 20) {c : Nat} (h7 : c < 7) (hp : pq qq c = true) {a : Int32} (ha : 1 ≤ a.toInt ∧ a.toInt ≤ 100000000) (hfree : a.toInt ≤ (mm c).toInt - hz hh c) {k : Nat} (hk : 1 ≤ k ∧ k ≤ 60) (hR : rk (pw hh) 20 < 15) :
    ∃ Hsz' Hce', fX5_makeHold Asz Anu Aba Hsz Hla Hce day (nI c) a (nI k) = some (nI (t1 + 1), Hsz', nI (t1 + 1), Hce') ∧ PRc E dn (t1 + 1) t2 Asz Anu Aba Amo Aco Hsz' (nI (t1 + 1)) Hce' Bsz Bla Bce Tma Tlc Ttc day lim low hig thr off cre rcp pay ee mm (upd qq 6 (nI (t1 + 1))) (put3 hh t1 (nI c) a (nI (dn + k))) bb := by
  obtain ⟨k1, k2, k3, k4, k5, k6, k7, k8, k9, k10⟩ := h
  have hn := pq_ne k1 h7 hp
  obtain ⟨f1, f2, f3, f4, f5, f6, f7⟩ := fr_toInt k3 k5 k6 h7 hp
  obtain ⟨⟨s1, s2, s3, s4⟩, s5, s6, s7, s8⟩ := k10
  have hRk := rk_lt hp h7
  have hR12 := rk7 (pq qq)
  have pp : ∀ x, pq (upd qq 6 x) = pq qq := fun x => pq_upd (by omega) x
  have hpt := top_free k4 ht
  obtain ⟨ce', e1, e2⟩ := rw_append k4 ht hR hn.1 h7 a (nI (dn + k)) (hh' := put3 hh t1 (nI c) a (nI (dn + k))) put3_0 put3_1 put3_2 (fun j _ hj => put3_o hj)
  refine ⟨_, ce', ?_, CLB_qq k1 (fun j hj => upd_n (by omega)), ?_, ?_, e2, ?_, ⟨fun j hj hpj => ?_, fun j hj hpj => ?_⟩, k7, ?_, ?_, ⟨⟨s1, by rw [upd_n (by omega)]; exact s2, upd_s _ _ _, by rw [upd_n (by omega)]; exact s4⟩, ⟨by rw [upd_n (by omega)]; exact s5.1, by rw [upd_n (by omega)]; exact s5.2.1, by rw [upd_n (by omega)]; exact s5.2.2.1, by rw [upd_n (by omega)]; exact s5.2.2.2⟩, s6, s7, by rw [pp]; exact s8⟩⟩
  · unfold fX5_makeHold
    rw [cl_find k1 h7 hp, bd1_s, if_pos (nI_nn (by omega)), amt_i ha, bd1_s, if_neg (by decide), if_neg (by rw [lt_i, nI_toInt (by omega), toInt_1]; omega), if_pos (show nI k ≤ (999 : Int32) from nI_le (b := 999) (by omega) (by omega)), x_freeAt k1 k4 h7 hp, bd1_s, if_pos (by rw [le_i, f1]; exact hfree), if_pos (show Hsz < 15 by rw [k4.1]; exact (nI_ltI (b := 15) (by omega) (by omega)).mpr hR), s1, nI_add, e1, bd4_s]
  · unfold CTB; rw [pp]; exact k2
  · unfold CIB; rw [pp]; exact k3
  · intro j hj
    have g := RIB_put k5 ht h7 hn.1 hp (d := nI (dn + k)) ha j hj
    rw [pp]; exact g
  · by_cases e : j = t1
    · subst e; rw [put3_2, nI_toInt (by omega)]; omega
    · obtain ⟨o1, o2, o3⟩ := put3_o (hh := hh) (x := nI c) (y := a) (z := nI (dn + k)) e
      rw [o3]
      refine k6.1 j hj ?_
      unfold pw at hpj ⊢
      rw [o1] at hpj
      exact hpj
  · rw [pp] at hpj
    have hnj := pq_ne k1 hj hpj
    rw [hz_put ht hpt h7 hj hnj.1]
    have g := k6.2 j hj hpj
    by_cases e : j = c
    · subst e; rw [if_pos rfl]; omega
    · rw [if_neg e]; omega
  · intro j hj
    have g := k8 j hj
    rw [pp]; exact g
  · obtain ⟨w1, w2, w3⟩ := k9
    exact ⟨w1, by rw [upd_n (by omega)]; exact w2, w3⟩
theorem bill_x (h : PRc E dn t1 t2 Asz Anu Aba Amo Aco Hsz Hla Hce Bsz Bla Bce Tma Tlc Ttc day lim low hig thr off cre rcp pay ee mm qq hh bb) (ht : t2 < 20) {c : Nat} (h7 : c < 7) (hp : pq qq c = true) {a : Int32} (ha : 1 ≤ a.toInt ∧ a.toInt ≤ 100000000) (hR : rk (pw bb) 20 < 15) :
    ∃ Bsz' Bce', fX5_writeBill Asz Anu Bsz Bla Bce (nI c) a = some (nI (t2 + 1), Bsz', nI (t2 + 1), Bce') ∧ PRc E dn t1 (t2 + 1) Asz Anu Aba Amo Aco Hsz Hla Hce Bsz' (nI (t2 + 1)) Bce' Tma Tlc Ttc day lim low hig thr off cre rcp pay ee mm (upd qq 7 (nI (t2 + 1))) hh (put3 bb t2 (nI c) a 0) := by
  obtain ⟨k1, k2, k3, k4, k5, k6, k7, k8, k9, k10⟩ := h
  have hn := pq_ne k1 h7 hp
  obtain ⟨⟨s1, s2, s3, s4⟩, s5, s6, s7, s8⟩ := k10
  have hRk := rk_lt hp h7
  have hR12 := rk7 (pq qq)
  have pp : ∀ x, pq (upd qq 7 x) = pq qq := fun x => pq_upd (by omega) x
  obtain ⟨ce', e1, e2⟩ := rw_append k7 ht hR hn.1 h7 a 0 (hh' := put3 bb t2 (nI c) a 0) put3_0 put3_1 put3_2 (fun j _ hj => put3_o hj)
  refine ⟨_, ce', ?_, CLB_qq k1 (fun j hj => upd_n (by omega)), ?_, ?_, k4, ?_, ⟨k6.1, ?_⟩, e2, ?_, ?_, ⟨⟨s1, by rw [upd_n (by omega)]; exact s2, by rw [upd_n (by omega)]; exact s3, upd_s _ _ _⟩, ⟨by rw [upd_n (by omega)]; exact s5.1, by rw [upd_n (by omega)]; exact s5.2.1, by rw [upd_n (by omega)]; exact s5.2.2.1, by rw [upd_n (by omega)]; exact s5.2.2.2⟩, s6, s7, by rw [pp]; exact s8⟩⟩
  · unfold fX5_writeBill
    rw [cl_find k1 h7 hp, bd1_s, if_pos (nI_nn (by omega)), amt_i ha, bd1_s, if_neg (by decide), if_pos (show Bsz < 15 by rw [k7.1]; exact (nI_ltI (b := 15) (by omega) (by omega)).mpr hR), e1, bd4_s]
  · unfold CTB; rw [pp]; exact k2
  · unfold CIB; rw [pp]; exact k3
  · intro j hj
    have g := k5 j hj
    rw [pp]; exact g
  · rw [pp]; exact k6.2
  · intro j hj
    have g := RIB_put k8 ht h7 hn.1 hp (d := 0) ha j hj
    rw [pp]; exact g
  · obtain ⟨w1, w2, w3⟩ := k9
    exact ⟨w1, by rw [upd_n (by omega)]; exact w2, w3⟩
theorem k3i {t : Nat} (ht : t < 20) {β : Type} (k : Option β) : ckI (3 * nI t) 60 k = k := by rw [show (3 : Int32) * nI t = nI (3 * t) from pk_mul 3 t]; exact ckI_ok (by omega) (by omega)
theorem k3i1 {t : Nat} (ht : t < 20) {β : Type} (k : Option β) : ckI (3 * nI t + 1) 60 k = k := by rw [show (3 : Int32) * nI t = nI (3 * t) from pk_mul 3 t, nI_1]; exact ckI_ok (by omega) (by omega)
theorem k3i2 {t : Nat} (ht : t < 20) {β : Type} (k : Option β) : ckI (3 * nI t + 2) 60 k = k := by rw [show (3 : Int32) * nI t = nI (3 * t) from pk_mul 3 t, show nI (3 * t) + 2 = nI (3 * t + 2) from nI_add _ 2]; exact ckI_ok (by omega) (by omega)
theorem c3i {t : Nat} (ht : t < 20) : ((3 : Int32) * nI t).toNatClampNeg = 3 * t := by rw [show (3 : Int32) * nI t = nI (3 * t) from pk_mul 3 t, nI_clamp (by omega)]
theorem c3i1 {t : Nat} (ht : t < 20) : ((3 : Int32) * nI t + 1).toNatClampNeg = 3 * t + 1 := by rw [show (3 : Int32) * nI t = nI (3 * t) from pk_mul 3 t, nI_1, nI_clamp (by omega)]
theorem c3i2 {t : Nat} (ht : t < 20) : ((3 : Int32) * nI t + 2).toNatClampNeg = 3 * t + 2 := by rw [show (3 : Int32) * nI t = nI (3 * t) from pk_mul 3 t, show nI (3 * t) + 2 = nI (3 * t + 2) from nI_add _ 2, nI_clamp (by omega)]
theorem case_hold (hr : HR rec n) (hn : n < 40) (h : PR n Asz Anu Aba Amo Aco Hsz Hla Hce Bsz Bla Bce Tma Tlc Ttc day lim low hig thr off cre rcp pay ee mm qq hh bb sv nx SL) (scL : Nat) (scx : Nat → Int32) (Ksz : Int32) (Kcl : Nat → Int32) (Kke : Nat → Int32) (z7 z9 z10 : Int32) {c : Nat} (hc : 1 ≤ c ∧ c < 6) {z14 : Int32} (hz : (z14 = 1 ∧ pq qq c = true) ∨ (z14 = 0 ∧ pq qq c = false)) {a : Int32} (ha : 1 ≤ a.toInt ∧ a.toInt ≤ 100000000) :
    (ckI 6 18 <| if (qq (6 : Int32).toNatClampNeg) = 20 then rec ee mm qq hh bb Ksz Kcl Kke Asz Anu Aba Amo Aco Hsz Hla Hce Bsz Bla Bce Tma Tlc Ttc day lim low hig thr off cre rcp pay sv nx SL z7 (nI n + 1) else bd1 (fL_low (z9 >>> (7 &&& 31)) 60) fun r_393 => lt_ (1 + r_393) fun x16_395 => bd1 (fL_law_L764 hh z7 (nI n) z10 (nI c) z14 a x16_395 2147483648 0 0) fun x17_401 => if z14 = 0 then fL_law_J819 scL scx ee mm qq hh bb Ksz Kcl Kke Asz Anu Aba Amo Aco Hsz Hla Hce Bsz Bla Bce Tma Tlc Ttc day lim low hig thr off cre rcp pay sv nx SL z7 (nI n) z10 (nI c) z14 a x16_395 x17_401 0 rec else bd1 (fL_free mm qq hh (nI c)) fun r_431 => if r_431 < a then fL_law_J819 scL scx ee mm qq hh bb Ksz Kcl Kke Asz Anu Aba Amo Aco Hsz Hla Hce Bsz Bla Bce Tma Tlc Ttc day lim low hig thr off cre rcp pay sv nx SL z7 (nI n) z10 (nI c) z14 a x16_395 x17_401 0 rec else fL_law_J819 scL scx ee mm qq hh bb Ksz Kcl Kke Asz Anu Aba Amo Aco Hsz Hla Hce Bsz Bla Bce Tma Tlc Ttc day lim low hig thr off cre rcp pay sv nx SL z7 (nI n) z10 (nI c) z14 a x16_395 x17_401 1 rec) = some (.inr ()) := by
  have hpr := h
  obtain ⟨⟨E, dn, t1, t2, h, hE, hdn⟩, hs, -⟩ := h
  obtain ⟨SL', q1⟩ := prep_b Asz Anu Aba Amo Aco Hsz Hla Hce Bsz Bla Bce Tma Tlc Ttc day lim low hig thr off cre rcp pay hs SL
  obtain ⟨sv', nx', q2, q3⟩ := keep_b (sv := sv) hs
  have k6 : ∀ {β : Type} (k : Option β), ckI 6 18 k = k := fun k => ckI_ok (i := 6) (by omega) (by omega)
  have k0 : ∀ {β : Type} (k : Option β), ckI 0 18 k = k := fun k => ckI_ok (i := 0) (by omega) (by omega)
  have z6 : (6 : Int32).toNatClampNeg = 6 := rfl
  have z0 : (0 : Int32).toNatClampNeg = 0 := rfl
  have e6 := h.2.2.2.2.2.2.2.2.2.1.2.2.1
  have e0 := h.2.2.2.2.2.2.2.2.2.1.2.1
  have ht20 := h.2.2.2.1.2.2.2.1
  rw [k6, z6, e6]
  by_cases full : t1 = 20
  · rw [if_pos (by rw [full]; rfl)]
    exact skip_ok hr hn hpr Ksz Kcl Kke z7
  · have ht : t1 < 20 := by omega
    rw [if_neg (show ¬ nI t1 = 20 from fun e => full (nI_inj (b := 20) (by omega) (by omega) e))]
    obtain ⟨k, hk, ek⟩ := low_i (z9 >>> (7 &&& 31)) (n := 60) (by omega) (by omega)
    have ek : fL_low (z9 >>> (7 &&& 31)) 60 = some (nI k) := ek
    rw [ek, bd1_s, lts, show (1 : Int32) + nI k = nI (1 + k) from nI_add 1 k, l_many, bd1_s]
    have refu : ∀ (v can : Int32), v < 0 → fX5_makeHold Asz Anu Aba Hsz Hla Hce day (nI c) a (nI (1 + k)) = some (v, Hsz, Hla, Hce) → (z14 = 0 ∧ v = -1 ∧ can = 0) ∨ (z14 = 1 ∧ can = 0 ∧ v = -3) ∨ (z14 = 1 ∧ can = 1 ∧ v = -4 ∧ rk (pw hh) 20 = 15) → fL_law_J819 scL scx ee mm qq hh bb Ksz Kcl Kke Asz Anu Aba Amo Aco Hsz Hla Hce Bsz Bla Bce Tma Tlc Ttc day lim low hig thr off cre rcp pay sv nx SL z7 (nI n) z10 (nI c) z14 a (nI (1 + k)) (nI (rk (pw hh) 20)) can rec = some (.inr ()) := by
      intro v can hv e cs
      have e7 : fX7_hold Asz Anu Aba Amo Aco Hsz Hla Hce Bsz Bla Bce Tma Tlc Ttc day lim low hig thr off cre rcp pay sv nx SL (nI c) a (nI (1 + k)) = some (v, Hsz, Hla, Hce, sv, nx, SL') := by
        unfold fX7_hold
        rw [q1, bd1_s, e, bd4_s, kept_neg hv, bd3_s]
      unfold fL_law_J819
      rw [e7, bd7_s]
      rcases cs with ⟨rfl, rfl, rfl⟩ | ⟨rfl, rfl, rfl⟩ | ⟨rfl, rfl, rfl, w⟩
      · rw [if_pos rfl]
        unfold fL_law_J868
        rw [if_pos rfl, if_pos rfl]
        exact fin_ok hr hn h (by omega) (by omega) hs scL scx Ksz Kcl Kke z7 z10
      · rw [if_neg (by decide), if_pos rfl]
        unfold fL_law_J868
        rw [if_pos rfl, if_pos rfl]
        exact fin_ok hr hn h (by omega) (by omega) hs scL scx Ksz Kcl Kke z7 z10
      · rw [if_neg (by decide), if_neg (by decide), w, if_pos (show nI 15 = 15 from rfl)]
        unfold fL_law_J868
        rw [if_pos rfl, if_neg (by decide), if_pos (show (15 : Int32) ≤ nI 15 from nI_le (a := 15) (by omega) (by omega))]
        exact fin_ok hr hn h (by omega) (by omega) hs scL scx Ksz Kcl Kke z7 z10
    have hR12 := rk7 (pq qq)
    rcases hz with ⟨rfl, hp⟩ | ⟨rfl, hp⟩
    · have hRk := rk_lt hp (show c < 7 by omega)
      obtain ⟨f1, f2, f3, f4, f5, f6, f7⟩ := fr_toInt h.2.2.1 h.2.2.2.2.1 h.2.2.2.2.2.1 (by omega) hp
      have hfr := l_free (mm := mm) (hh := hh) (qq := qq) (c := c) (dn := dn) hc.1 (by omega) e0 (by omega) h.2.2.2.2.2.1.1
      rw [if_neg (by decide), hfr, bd1_s]
      have n1 : ¬ nI (1 + k) < 1 := by rw [lt_i, nI_toInt (by omega), toInt_1]; omega
      have n2 : nI (1 + k) ≤ (999 : Int32) := nI_le (b := 999) (by omega) (by omega)
      by_cases can : a.toInt ≤ (mm c).toInt - hz hh c
      · rw [if_neg (by rw [lt_i, f1]; omega)]
        by_cases hR : rk (pw hh) 20 < 15
        · obtain ⟨Hsz', Hce', x1, x2⟩ := hold_x h (by omega) ht (by omega) hp ha can (k := 1 + k) (by omega) hR
          have e7 : fX7_hold Asz Anu Aba Amo Aco Hsz Hla Hce Bsz Bla Bce Tma Tlc Ttc day lim low hig thr off cre rcp pay sv nx SL (nI c) a (nI (1 + k)) = some (nI (t1 + 1), Hsz', nI (t1 + 1), Hce', sv', nx', SL') := by
            unfold fX7_hold
            rw [q1, bd1_s, x1, bd4_s, kept_pos (nI_nn (by omega)) q2, bd3_s]
          unfold fL_law_J819
          rw [e7, bd7_s, if_neg (by decide), if_neg (by decide), if_neg (show ¬ nI (rk (pw hh) 20) = 15 from fun e => by have := nI_inj (b := 15) (by omega) (by omega) e; omega), k6, z6, e6, nI_1]
          unfold fL_law_J868
          rw [if_pos rfl, if_neg (by decide), if_neg (show ¬ (15 : Int32) ≤ nI (rk (pw hh) 20) from nI_ge (b := 15) hR (by omega))]
          simp only [k6, k0, z6, z0, e6, e0, k3i ht, k3i1 ht, k3i2 ht, c3i ht, c3i1 ht, c3i2 ht, lts, nI_1, nI_add]
          exact fin_ok hr hn x2 (by omega) (by omega) q3 scL scx Ksz Kcl Kke z7 z10
        · have h15 : rk (pw hh) 20 = 15 := by have := h.2.2.2.1.2.1; omega
          refine refu (-4) 1 (by decide) ?_ (Or.inr (Or.inr ⟨rfl, rfl, rfl, h15⟩))
          unfold fX5_makeHold
          rw [cl_find h.1 (by omega) hp, bd1_s, if_pos (nI_nn (by omega)), amt_i ha, bd1_s, if_neg (by decide), if_neg n1, if_pos n2, x_freeAt h.1 h.2.2.2.1 (by omega) hp, bd1_s, if_pos (by rw [le_i, f1]; exact can), if_neg (show ¬ Hsz < 15 by rw [h.2.2.2.1.1, h15]; decide)]
      · rw [if_pos (by rw [lt_i, f1]; omega)]
        refine refu (-3) 0 (by decide) ?_ (Or.inr (Or.inl ⟨rfl, rfl, rfl⟩))
        unfold fX5_makeHold
        rw [cl_find h.1 (by omega) hp, bd1_s, if_pos (nI_nn (by omega)), amt_i ha, bd1_s, if_neg (by decide), if_neg n1, if_pos n2, x_freeAt h.1 h.2.2.2.1 (by omega) hp, bd1_s, if_neg (by rw [le_i, f1]; exact can)]
    · rw [if_pos rfl]
      refine refu (-1) 0 (by decide) ?_ (Or.inl ⟨rfl, rfl, rfl⟩)
      unfold fX5_makeHold
      rw [cl_findn h.1 (by omega) hp, bd1_s, if_neg (by decide)]
theorem case_bill (hr : HR rec n) (hn : n < 40) (h : PR n Asz Anu Aba Amo Aco Hsz Hla Hce Bsz Bla Bce Tma Tlc Ttc day lim low hig thr off cre rcp pay ee mm qq hh bb sv nx SL) (scL : Nat) (scx : Nat → Int32) (Ksz : Int32) (Kcl : Nat → Int32) (Kke : Nat → Int32) (z7 z10 : Int32) {c : Nat} (hc : 1 ≤ c ∧ c < 6) {z14 : Int32} (hz : (z14 = 1 ∧ pq qq c = true) ∨ (z14 = 0 ∧ pq qq c = false)) {a : Int32} (ha : 1 ≤ a.toInt ∧ a.toInt ≤ 100000000) :
    (ckI 7 18 <| if (qq (7 : Int32).toNatClampNeg) = 20 then rec ee mm qq hh bb Ksz Kcl Kke Asz Anu Aba Amo Aco Hsz Hla Hce Bsz Bla Bce Tma Tlc Ttc day lim low hig thr off cre rcp pay sv nx SL z7 (nI n + 1) else bd1 (fL_law_L1029 bb z7 (nI n) z10 (nI c) z14 a 2147483648 0 0) fun x16_346 => bd7 (fX7_bill Asz Anu Aba Amo Aco Hsz Hla Hce Bsz Bla Bce Tma Tlc Ttc day lim low hig thr off cre rcp pay sv nx SL (nI c) a) fun r_347 Bsz_348 Bla_349 Bce_350 sv_351 nx_352 SL_353 => if z14 = 0 then fL_law_J1095 scL scx ee mm qq hh bb Ksz Kcl Kke Asz Anu Aba Amo Aco Hsz Hla Hce Bsz_348 Bla_349 Bce_350 Tma Tlc Ttc day lim low hig thr off cre rcp pay sv_351 nx_352 SL_353 z7 (nI n) z10 (nI c) z14 a x16_346 (-1) r_347 rec else if x16_346 = 15 then fL_law_J1095 scL scx ee mm qq hh bb Ksz Kcl Kke Asz Anu Aba Amo Aco Hsz Hla Hce Bsz_348 Bla_349 Bce_350 Tma Tlc Ttc day lim low hig thr off cre rcp pay sv_351 nx_352 SL_353 z7 (nI n) z10 (nI c) z14 a x16_346 (-4) r_347 rec else ckI 7 18 <| fL_law_J1095 scL scx ee mm qq hh bb Ksz Kcl Kke Asz Anu Aba Amo Aco Hsz Hla Hce Bsz_348 Bla_349 Bce_350 Tma Tlc Ttc day lim low hig thr off cre rcp pay sv_351 nx_352 SL_353 z7 (nI n) z10 (nI c) z14 a x16_346 ((qq (7 : Int32).toNatClampNeg) + 1) r_347 rec) = some (.inr ()) := by
  have hpr := h
  obtain ⟨⟨E, dn, t1, t2, h, hE, hdn⟩, hs, -⟩ := h
  obtain ⟨SL', q1⟩ := prep_b Asz Anu Aba Amo Aco Hsz Hla Hce Bsz Bla Bce Tma Tlc Ttc day lim low hig thr off cre rcp pay hs SL
  obtain ⟨sv', nx', q2, q3⟩ := keep_b (sv := sv) hs
  have k7 : ∀ {β : Type} (k : Option β), ckI 7 18 k = k := fun k => ckI_ok (i := 7) (by omega) (by omega)
  have z7' : (7 : Int32).toNatClampNeg = 7 := rfl
  have e7q := h.2.2.2.2.2.2.2.2.2.1.2.2.2
  have ht20 := h.2.2.2.2.2.2.1.2.2.2.1
  have hR15 := h.2.2.2.2.2.2.1.2.1
  rw [k7, z7', e7q]
  by_cases full : t2 = 20
  · rw [if_pos (by rw [full]; rfl)]
    exact skip_ok hr hn hpr Ksz Kcl Kke z7
  · have ht : t2 < 20 := by omega
    rw [if_neg (show ¬ nI t2 = 20 from fun e => full (nI_inj (b := 20) (by omega) (by omega) e)), l_manyB, bd1_s]
    have hR12 := rk7 (pq qq)
    rcases hz with ⟨rfl, hp⟩ | ⟨rfl, hp⟩
    · have hRk := rk_lt hp (show c < 7 by omega)
      by_cases hR : rk (pw bb) 20 < 15
      · obtain ⟨Bsz', Bce', x1, x2⟩ := bill_x h ht (by omega) hp ha hR
        have e7 : fX7_bill Asz Anu Aba Amo Aco Hsz Hla Hce Bsz Bla Bce Tma Tlc Ttc day lim low hig thr off cre rcp pay sv nx SL (nI c) a = some (nI (t2 + 1), Bsz', nI (t2 + 1), Bce', sv', nx', SL') := by
          unfold fX7_bill
          rw [q1, bd1_s, x1, bd4_s, kept_pos (nI_nn (by omega)) q2, bd3_s]
        rw [e7, bd7_s, if_neg (by decide), if_neg (show ¬ nI (rk (pw bb) 20) = 15 from fun e => by have := nI_inj (b := 15) (by omega) (by omega) e; omega), k7, nI_1]
        unfold fL_law_J1095
        rw [if_pos rfl, if_neg (by decide), if_neg (show ¬ (15 : Int32) ≤ nI (rk (pw bb) 20) from nI_ge (b := 15) hR (by omega))]
        simp only [k7, z7', e7q, k3i ht, k3i1 ht, k3i2 ht, c3i ht, c3i1 ht, c3i2 ht, lts, nI_1, nI_add]
        exact fin_ok hr hn x2 (by omega) (by omega) q3 scL scx Ksz Kcl Kke z7 z10
      · have h15 : rk (pw bb) 20 = 15 := by omega
        have e : fX5_writeBill Asz Anu Bsz Bla Bce (nI c) a = some (-4, Bsz, Bla, Bce) := by
          unfold fX5_writeBill
          rw [cl_find h.1 (by omega) hp, bd1_s, if_pos (nI_nn (by omega)), amt_i ha, bd1_s, if_neg (by decide), if_neg (show ¬ Bsz < 15 by rw [h.2.2.2.2.2.2.1.1, h15]; decide)]
        have e7 : fX7_bill Asz Anu Aba Amo Aco Hsz Hla Hce Bsz Bla Bce Tma Tlc Ttc day lim low hig thr off cre rcp pay sv nx SL (nI c) a = some (-4, Bsz, Bla, Bce, sv, nx, SL') := by
          unfold fX7_bill
          rw [q1, bd1_s, e, bd4_s, kept_neg (by decide), bd3_s]
        rw [e7, bd7_s, if_neg (by decide), h15, if_pos (show nI 15 = 15 from rfl)]
        unfold fL_law_J1095
        rw [if_pos rfl, if_neg (by decide), if_pos (show (15 : Int32) ≤ nI 15 from nI_le (a := 15) (by omega) (by omega))]
        exact fin_ok hr hn h (by omega) (by omega) hs scL scx Ksz Kcl Kke z7 z10
    · have e : fX5_writeBill Asz Anu Bsz Bla Bce (nI c) a = some (-1, Bsz, Bla, Bce) := by
        unfold fX5_writeBill
        rw [cl_findn h.1 (by omega) hp, bd1_s, if_neg (by decide)]
      have e7 : fX7_bill Asz Anu Aba Amo Aco Hsz Hla Hce Bsz Bla Bce Tma Tlc Ttc day lim low hig thr off cre rcp pay sv nx SL (nI c) a = some (-1, Bsz, Bla, Bce, sv, nx, SL') := by
        unfold fX7_bill
        rw [q1, bd1_s, e, bd4_s, kept_neg (by decide), bd3_s]
      rw [e7, bd7_s, if_pos rfl]
      unfold fL_law_J1095
      rw [if_pos rfl, if_pos rfl]
      exact fin_ok hr hn h (by omega) (by omega) hs scL scx Ksz Kcl Kke z7 z10
end CRW
