/-! the law's asks: orders, rows, entries, sums -/
theorem bs0_i {ρ : Type} {k : Option ρ} : bs0 (some (.inr ()) : Option (ρ ⊕ Unit)) k = k := rfl
theorem bs3_i {ρ α1 α2 α3 : Type} {k : α1 → α2 → α3 → Option ρ} {a : α1} {b : α2} {c : α3} : bs3 (some (.inr (a, b, c)) : Option (ρ ⊕ (α1 × α2 × α3))) k = k a b c := rfl
theorem bs6_i {ρ α1 α2 α3 α4 α5 α6 : Type} {k : α1 → α2 → α3 → α4 → α5 → α6 → Option ρ} {a : α1} {b : α2} {c : α3} {d : α4} {e : α5} {f : α6} : bs6 (some (.inr (a, b, c, d, e, f)) : Option (ρ ⊕ (α1 × α2 × α3 × α4 × α5 × α6))) k = k a b c d e f := rfl
theorem neg_i {x : Int32} (h : 0 ≤ x.toInt) : (-x).toInt = - x.toInt := by
  have := x.toInt_lt
  rw [← Int32.zero_sub, sub_toInt (by rw [toInt_0]; omega) (by rw [toInt_0]; omega), toInt_0]
  omega
theorem neg_64 {x : Int64} (h : 0 ≤ x.toInt ∧ x.toInt ≤ 1000000000) : (-x).toInt = - x.toInt := by
  have z : (0 : Int64).toInt = 0 := by decide
  rw [← Int64.zero_sub, sub64 (by rw [z]; omega) (by rw [z]; omega), z]
  omega
section AK
variable {E dn t1 t2 : Nat} {Asz : Int32} {Anu : Nat → Int32} {Aba : Nat → Int32} {Amo : Nat → Int32} {Aco : Nat → Int64} {Hsz : Int32} {Hla : Int32} {Hce : Nat → Int32} {Bsz : Int32} {Bla : Int32} {Bce : Nat → Int32} {Tma : Int32} {Tlc : Int32} {Ttc : Nat → Int32} {day : Int32} {lim : Int32} {low : Int32} {hig : Int32} {thr : Int32} {off : Int64} {cre : Int64} {rcp : Int64} {pay : Int64} {ee : Nat → Int32} {mm : Nat → Int64} {qq : Nat → Int32} {hh : Nat → Int32} {bb : Nat → Int32}
theorem s_490 {K : Nat → Int32} {a b c d : Nat} (hr : Rel K a b) {lc ld : Int64} (h1 : lc.toInt = (K a).toInt) (h2 : ld.toInt = (K b).toInt) (hcd : a < b → nI c ≤ nI d) (u7 u12 z13 : Int32) (u8 u10 : Int64) (Ksz : Int32) (Kcl : Nat → Int32) (Kke : Nat → Int32) {ρ : Type} {rec : Int32 → (Nat → Int32) → (Nat → Int32) → Int32 → Option (((Int32 × Int32 × (Nat → Int32) × (Nat → Int32)) ⊕ (Int32 × (Nat → Int32) × (Nat → Int32))) ⊕ (Int32 × (Nat → Int32) × (Nat → Int32)))} : fL_same_J490 mm qq hh Asz Anu Aba Amo Hsz Hce u7 u8 u10 u12 Ksz Kcl Kke z13 (nI c) (nI d) lc ld rec = rec Ksz Kcl Kke (z13 + 1) := by
  unfold fL_same_J490
  unfold Rel at hr
  rcases hr with hr | ⟨hr1, hr2⟩
  · rw [lt_i] at hr
    rw [if_neg (by rw [lt64]; omega), if_neg (fun w => by rw [w] at h1; omega)]
  · rw [hr1] at h1
    rw [if_neg (by rw [lt64]; omega), if_pos (Int64.toInt_inj.mp (by omega)), if_pos (hcd hr2)]
theorem s_order (h : PRc E dn t1 t2 Asz Anu Aba Amo Aco Hsz Hla Hce Bsz Bla Bce Tma Tlc Ttc day lim low hig thr off cre rcp pay ee mm qq hh bb) (hdn : dn ≤ 2800) {o : Nat} (ho : 1 ≤ o ∧ o ≤ 3) (u8 u10 : Int64) : ∀ (n i : Nat) (Ksz : Int32) (Kcl : Nat → Int32) (Kke : Nat → Int32), i ≤ rk (pq qq) 7 → rk (pq qq) 7 - i < n → ∃ Ksz' Kcl' Kke', fL_same_L347 mm qq hh Asz Anu Aba Amo Hsz Hce (nI (rk (pq qq) 7)) u8 u10 (nI o) n Ksz Kcl Kke (nI i) = some (.inr (Ksz', Kcl', Kke')) := by
  obtain ⟨F, f1, f2⟩ := key_b h (o := o) (by omega)
  have hR := rk_bd (pq qq) 7
  intro n
  induction n with
  | zero => intro i _ _ _ h1 h2; omega
  | succ n ih =>
    intro i Ksz Kcl Kke h1 h2
    rw [fL_same_L347, nI_1]
    by_cases e : rk (pq qq) 7 ≤ i + 1
    · rw [if_pos (nI_le e (by omega))]
      exact ⟨Ksz, Kcl, Kke, rfl⟩
    · rw [if_neg (nI_ge (by omega) (by omega))]
      obtain ⟨b1, b2⟩ := srt_b (kO o Aba Amo F) (rk (pq qq) 7)
      have la := b1 i (by omega)
      have lb := b1 (i + 1) (by omega)
      have rl := b2 i (i + 1) (by omega) (by omega)
      obtain ⟨K1, K2, K3, r1⟩ := ranked_b (rk7 (pq qq)) (u := o) (by omega) f2 (show i < rk (pq qq) 7 by omega) Ksz Kcl Kke
      obtain ⟨K4, K5, K6, r2⟩ := ranked_b (rk7 (pq qq)) (u := o) (by omega) f2 (show i + 1 < rk (pq qq) 7 by omega) K1 K2 K3
      rw [← h.1.1] at r1 r2
      rw [r1, bd4_s, r2, bd4_s]
      obtain ⟨c, hc, hp, ec⟩ := rk_surj la
      obtain ⟨d, hd, hpd, ed⟩ := rk_surj lb
      have nc := (h.1.2.2.2 c hc hp).1
      have nd := (h.1.2.2.2 d hd hpd).1
      have mc := (h.1.2.2.2 c hc hp).2.2
      have md := (h.1.2.2.2 d hd hpd).2.2
      have bc := cl_bal h.1 hc hp
      have bd := cl_bal h.1 hd hpd
      have fc := f1 c hc hp
      have fd := f1 d hd hpd
      have ne1 := pq_ne h.1 hc hp
      have ne2 := pq_ne h.1 hd hpd
      have ic := h.2.2.1 c hc hp
      have id' := h.2.2.1 d hd hpd
      have e0 := h.2.2.2.2.2.2.2.2.2.1.2.1
      have hi := h.2.2.2.2.2.1.1
      have freec := l_free (mm := mm) (qq := qq) (hh := hh) ne1.1 hc e0 (by omega) hi
      have freed := l_free (mm := mm) (qq := qq) (hh := hh) ne2.1 hd e0 (by omega) hi
      have hcd : srt (kO o Aba Amo F) (rk (pq qq) 7) i < srt (kO o Aba Amo F) (rk (pq qq) 7) (i + 1) → nI c ≤ nI d := fun w => by
        refine nI_le ?_ (by omega)
        refine Nat.le_of_not_lt fun q => ?_
        have := rk_lt hpd q
        omega
      rw [ec] at nc mc bc fc
      rw [ed] at nd md bd fd
      obtain ⟨K7, K8, K9, g⟩ := ih (i + 1) K4 K5 K6 (by omega) (by omega)
      rw [← nI_1] at g
      refine ⟨K7, K8, K9, ?_⟩
      have q25 : ∀ (c : Nat), c < 7 → ∀ {β : Type} (k : Option β), ckI (nI c) 25 k = k := fun c hc _ k => ckI_ok (by omega) (by omega)
      have q18 : ∀ (i : Nat), i < 7 → ∀ {β : Type} (k : Option β), ckI (10 + nI i) 18 k = k := fun i hi _ k => by rw [show (10 : Int32) + nI i = nI (10 + i) from nI_add 10 i]; exact ckI_ok (by omega) (by omega)
      have d10 : ∀ (i : Nat), i < 7 → ((10 : Int32) + nI i).toNatClampNeg = 10 + i := fun i hi => by rw [show (10 : Int32) + nI i = nI (10 + i) from nI_add 10 i, nI_clamp (by omega)]
      have di : ∀ (i : Nat), i < 7 → (nI i).toNatClampNeg = i := fun i hi => nI_clamp (by omega)
      rw [nc, nd, if_neg (show ¬ nI c < 1 by rw [lt_i, nI_toInt (by omega), toInt_1]; omega), if_neg (show ¬ (6 : Int32) < nI c by rw [lt_i, nI_toInt (by omega)]; have : (6 : Int32).toInt = 6 := rfl; omega), if_neg (show ¬ nI d < 1 by rw [lt_i, nI_toInt (by omega), toInt_1]; omega), if_pos (show nI d ≤ (6 : Int32) from nI_le (b := 6) (by omega) (by omega))]
      rcases (by omega : o = 1 ∨ o = 2 ∨ o = 3) with rfl | rfl | rfl
      · rw [if_pos (by decide), q25 c hc, di c hc]
        unfold fL_same_J447
        rw [if_pos (by decide), q25 d hd, di d hd, s_490 rl (mm := mm) (ρ := Unit) ?_ ?_ hcd]
        · exact g
        · show _ = (-(Aba _)).toInt
          rw [neg_64 ⟨ic.1, ic.2.1⟩, neg_i (by omega), bc.2]
        · show _ = (-(Aba _)).toInt
          rw [neg_64 ⟨id'.1, id'.2.1⟩, neg_i (by omega), bd.2]
      · rw [if_neg (by decide), if_pos (by decide), freec, bd1_s]
        unfold fL_same_J447
        rw [if_neg (by decide), if_pos (by decide), freed, bd1_s, s_490 rl (ρ := Unit) ?_ ?_ hcd]
        · exact g
        · show _ = (F _).toInt
          rw [up64, fc]
        · show _ = (F _).toInt
          rw [up64, fd]
      · rw [if_neg (by decide), if_neg (by decide), q18 c hc, d10 c hc]
        unfold fL_same_J447
        rw [if_neg (by decide), if_neg (by decide), q18 d hd, d10 d hd, s_490 rl (ρ := Unit) ?_ ?_ hcd]
        · exact g
        · show _ = (Amo _).toInt
          rw [up64, mc]
        · show _ = (Amo _).toInt
          rw [up64, md]
theorem s_orders (h : PRc E dn t1 t2 Asz Anu Aba Amo Aco Hsz Hla Hce Bsz Bla Bce Tma Tlc Ttc day lim low hig thr off cre rcp pay ee mm qq hh bb) (hdn : dn ≤ 2800) (u8 u10 : Int64) : ∀ (n o : Nat) (Ksz : Int32) (Kcl : Nat → Int32) (Kke : Nat → Int32), 1 ≤ o → o ≤ 4 → 4 - o < n → ∃ Ksz' Kcl' Kke', fL_same_L338 mm qq hh Asz Anu Aba Amo Hsz Hce (nI (rk (pq qq) 7)) u8 u10 n Ksz Kcl Kke (nI o) = some (.inr (Ksz', Kcl', Kke')) := by
  intro n
  induction n with
  | zero => intro o _ _ _ h0 h1 h2; omega
  | succ n ih =>
    intro o Ksz Kcl Kke h0 h1 h2
    rw [fL_same_L338]
    by_cases e : o = 4
    · subst e
      rw [if_pos (by decide)]
      exact ⟨Ksz, Kcl, Kke, rfl⟩
    · obtain ⟨K1, K2, K3, g⟩ := s_order h hdn (o := o) (by omega) u8 u10 2147483648 0 Ksz Kcl Kke (by omega) (by have := rk_bd (pq qq) 7; omega)
      have g : fL_same_L347 mm qq hh Asz Anu Aba Amo Hsz Hce (nI (rk (pq qq) 7)) u8 u10 (nI o) 2147483648 Ksz Kcl Kke 0 = _ := g
      rw [if_neg (show ¬ (4 : Int32) ≤ nI o from nI_ge (b := 4) (by omega) (by omega)), g, bs3_i, nI_1]
      exact ih (o + 1) K1 K2 K3 (by omega) (by omega) (by omega)
theorem row_t {sz la : Int32} {ce hh qq : Nat → Int32} {top : Nat} (hr : RWB sz la ce hh top) {k : Nat} (hk : k < 20) (hp : pw hh k = true) {p : Nat} (h3 : p < 3) : fX7_aboutRow sz ce (nI (k + 1)) (nI p) = some (hh (3 * k + p)) := by
  have hR := rk_lt hp hk
  have hR15 := hr.2.1
  unfold fX7_aboutRow
  rw [rw_find hr hk hp, bd1_s, if_pos (nI_nn (by omega)), if_neg (nI_nl (by omega)), if_pos (show nI p ≤ (2 : Int32) from nI_le (b := 2) (by omega) (by omega)), show (1 : Int32) + nI p = nI (1 + p) from nI_add 1 p, rw_get hr hk hp (show 1 + p < 4 by omega), bd1_s]
  obtain ⟨r0, r1, r2, r3, r4⟩ := hr.2.2.2.2 k hk hp
  rcases (by omega : p = 0 ∨ p = 1 ∨ p = 2) with rfl | rfl | rfl
  · exact congrArg some r2
  · exact congrArg some r3
  · exact congrArg some r4
theorem row_f {sz la : Int32} {ce hh qq : Nat → Int32} {top : Nat} (hr : RWB sz la ce hh top) {k : Nat} (hk : k < 20) (hp : pw hh k = false) (q : Int32) : fX7_aboutRow sz ce (nI (k + 1)) q = some (-1) := by
  unfold fX7_aboutRow
  rw [rw_findn hr hk hp, bd1_s, if_neg (by decide)]
theorem s_rows (h : PRc E dn t1 t2 Asz Anu Aba Amo Aco Hsz Hla Hce Bsz Bla Bce Tma Tlc Ttc day lim low hig thr off cre rcp pay ee mm qq hh bb) (Ksz : Int32) (Kcl : Nat → Int32) (Kke : Nat → Int32) (u7 : Int32) (u8 u10 : Int64) : ∀ (n i : Nat), i ≤ 20 → 20 - i < n → fL_same_L532 hh bb Ksz Kcl Kke Hsz Hce Bsz Bce u7 u8 u10 n (nI i) = some (.inr ()) := by
  obtain ⟨k1, k2, k3, k4, k5, k6, k7, k8, k9, k10⟩ := h
  intro n
  induction n with
  | zero => intro i h1 h2; omega
  | succ n ih =>
    intro i h1 h2
    rw [fL_same_L532]
    by_cases e : i = 20
    · subst e
      rw [if_pos (by decide)]
    · have a3 : (3 : Int32) * nI i = nI (3 * i) := pk_mul 3 i
      have q0 : ∀ {β : Type} (k : Option β), ckI (nI (3 * i)) 60 k = k := fun k => ckI_ok (by omega) (by omega)
      have q1 : ∀ {β : Type} (k : Option β), ckI (nI (3 * i) + 1) 60 k = k := fun k => by rw [nI_1]; exact ckI_ok (by omega) (by omega)
      have q2 : ∀ {β : Type} (k : Option β), ckI (nI (3 * i) + 2) 60 k = k := fun k => by rw [show nI (3 * i) + 2 = nI (3 * i + 2) from nI_add _ 2]; exact ckI_ok (by omega) (by omega)
      have c0 : (nI (3 * i)).toNatClampNeg = 3 * i := nI_clamp (by omega)
      have c1 : (nI (3 * i) + 1).toNatClampNeg = 3 * i + 1 := by rw [nI_1, nI_clamp (by omega)]
      have c2 : (nI (3 * i) + 2).toNatClampNeg = 3 * i + 2 := by rw [show nI (3 * i) + 2 = nI (3 * i + 2) from nI_add _ 2, nI_clamp (by omega)]
      have i1 : nI i + 1 = nI (i + 1) := nI_1 i
      have nxt := ih (i + 1) (by omega) (by omega)
      rw [← nI_1] at nxt
      have le : ∀ (f : Nat → Int32), (f (3 * i) ≤ 0 ↔ pw f i = false) := fun f => by
        rw [le_i, toInt_0]
        unfold pw
        rw [decide_eq_false_iff_not]
        omega
      have J633 : fL_same_J633 hh bb Ksz Kcl Kke Hsz Hce Bsz Bce u7 u8 u10 (nI i) (fL_same_L532 hh bb Ksz Kcl Kke Hsz Hce Bsz Bce u7 u8 u10 n) = some (.inr ()) := by
        unfold fL_same_J633
        rw [a3, q0, c0]
        cases hp : pw bb i with
        | false =>
          rw [if_pos ((le bb).mpr hp)]
          unfold fL_same_J648 fX7_billOf
          rw [i1, row_f (qq := qq) k7 (by omega) hp, bd1_s, bd1_s, if_pos rfl]
          unfold fL_same_J675
          rw [if_pos rfl, if_pos rfl]
          exact nxt
        | true =>
          have r0 := row_t (qq := qq) k7 (show i < 20 by omega) hp (p := 0) (by omega)
          have r1 := row_t (qq := qq) k7 (show i < 20 by omega) hp (p := 1) (by omega)
          have r2 := row_t (qq := qq) k7 (show i < 20 by omega) hp (p := 2) (by omega)
          have r0 : fX7_aboutRow Bsz Bce (nI (i + 1)) 0 = some (bb (3 * i)) := r0
          have r1 : fX7_aboutRow Bsz Bce (nI (i + 1)) 1 = some (bb (3 * i + 1)) := r1
          have r2 : fX7_aboutRow Bsz Bce (nI (i + 1)) 2 = some (bb (3 * i + 2)) := r2
          rw [if_neg (fun w => by rw [(le bb).mp w] at hp; cases hp)]
          unfold fL_same_J648 fX7_billOf
          rw [i1, r0, bd1_s, bd1_s, if_neg (by decide), a3, q0, c0]
          unfold fL_same_J675 fX7_billOf
          rw [if_pos rfl, if_neg (by decide), i1, r1, bd1_s, bd1_s, a3, q1, c1, if_pos rfl, r2, bd1_s, bd1_s, q2, c2, if_pos rfl, ← i1]
          exact nxt
      rw [if_neg (show ¬ (20 : Int32) ≤ nI i from nI_ge (b := 20) (by omega) (by omega)), a3, q0, c0]
      cases hp : pw hh i with
      | false =>
        rw [if_pos ((le hh).mpr hp)]
        unfold fL_same_J554 fX7_holdOf
        rw [i1, row_f (qq := qq) k4 (by omega) hp, bd1_s, bd1_s, if_pos rfl]
        unfold fL_same_J581
        rw [if_pos rfl, if_pos rfl]
        exact J633
      | true =>
        have r0 := row_t (qq := qq) k4 (show i < 20 by omega) hp (p := 0) (by omega)
        have r1 := row_t (qq := qq) k4 (show i < 20 by omega) hp (p := 1) (by omega)
        have r2 := row_t (qq := qq) k4 (show i < 20 by omega) hp (p := 2) (by omega)
        have r0 : fX7_aboutRow Hsz Hce (nI (i + 1)) 0 = some (hh (3 * i)) := r0
        have r1 : fX7_aboutRow Hsz Hce (nI (i + 1)) 1 = some (hh (3 * i + 1)) := r1
        have r2 : fX7_aboutRow Hsz Hce (nI (i + 1)) 2 = some (hh (3 * i + 2)) := r2
        rw [if_neg (fun w => by rw [(le hh).mp w] at hp; cases hp)]
        unfold fL_same_J554 fX7_holdOf
        rw [i1, r0, bd1_s, bd1_s, if_neg (by decide), a3, q0, c0]
        unfold fL_same_J581 fX7_holdOf
        rw [if_pos rfl, if_neg (by decide), i1, r1, bd1_s, bd1_s, a3, q1, c1, if_pos rfl, r2, bd1_s, bd1_s, q2, c2, if_pos rfl]
        exact J633
theorem entry_x (h : PRc E dn t1 t2 Asz Anu Aba Amo Aco Hsz Hla Hce Bsz Bla Bce Tma Tlc Ttc day lim low hig thr off cre rcp pay ee mm qq hh bb) (hE : E ≤ 41000) {m k : Nat} (h1 : 1 ≤ m) (h2 : m ≤ E) (h3 : E < m + 10) (hk : k < 6) : fX7_entry Tma Ttc (nI m) (nI k) = some (ee (6 * (m % 10) + k)) := by
  obtain ⟨w1, w2, w3, w4, w5, w6⟩ := h.2.2.2.2.2.2.2.2.1
  have kp : fX6_keeps (nI E) (nI m) = some 1 := by
    rw [keeps_i (by omega), if_pos]
    rw [nI_toInt (by omega)]
    omega
  unfold fX7_entry
  rw [w1, kp, bd1_s, if_neg (by decide), if_neg (nI_nl (by omega)), if_pos (show nI k ≤ (6 : Int32) from nI_le (b := 6) (by omega) (by omega)), X6_get h1 h2 (by omega) (by omega) (by omega) Ttc kp, bd1_s, w5 m k h1 h2 h3 hk]
theorem s_entry (h : PRc E dn t1 t2 Asz Anu Aba Amo Aco Hsz Hla Hce Bsz Bla Bce Tma Tlc Ttc day lim low hig thr off cre rcp pay ee mm qq hh bb) (hE : E ≤ 41000) (Ksz : Int32) (Kcl : Nat → Int32) (Kke : Nat → Int32) (u7 : Int32) (u8 u10 : Int64) {m : Nat} (h1 : 1 ≤ m) (h2 : m ≤ E) (h3 : E < m + 10) : ∀ (n i : Nat), i ≤ 6 → 6 - i < n → fL_same_L757 ee Ksz Kcl Kke Tma Ttc u7 u8 u10 (nI m) n (nI i) = some (.inr ()) := by
  intro n
  induction n with
  | zero => intro i g1 g2; omega
  | succ n ih =>
    intro i g1 g2
    rw [fL_same_L757]
    by_cases e : i = 6
    · subst e
      rw [if_pos (by decide)]
    · have hm : m % 10 < 10 := Nat.mod_lt _ (by omega)
      have a6 : (6 : Int32) * (nI m - nI m / 10 * 10) + nI i = nI (6 * (m % 10) + i) := by
        rw [rem10 (by omega), show (6 : Int32) * nI (m % 10) = nI (6 * (m % 10)) from pk_mul 6 _, nI_add]
      rw [if_neg (show ¬ (6 : Int32) ≤ nI i from nI_ge (b := 6) (by omega) (by omega)), entry_x h hE h1 h2 h3 (by omega), bd1_s, a6, ckI_ok (show 6 * (m % 10) + i < 60 by omega) (by omega), nI_clamp (by omega), if_pos rfl, nI_1]
      exact ih (i + 1) (by omega) (by omega)
theorem s_entries (h : PRc E dn t1 t2 Asz Anu Aba Amo Aco Hsz Hla Hce Bsz Bla Bce Tma Tlc Ttc day lim low hig thr off cre rcp pay ee mm qq hh bb) (hE : E ≤ 41000) (Ksz : Int32) (Kcl : Nat → Int32) (Kke : Nat → Int32) (u7 : Int32) (u8 u10 : Int64) : ∀ (n m : Nat), m ≤ E → m < n → fL_same_L738 ee qq Ksz Kcl Kke Tma Ttc u7 u8 u10 n (nI m) = some (.inr ()) := by
  have w2 := h.2.2.2.2.2.2.2.2.1.2.1
  have q5 : ∀ {β : Type} (k : Option β), ckI 5 18 k = k := fun k => ckI_ok (i := 5) (by omega) (by omega)
  have z5 : (5 : Int32).toNatClampNeg = 5 := rfl
  intro n
  induction n with
  | zero => intro m h1 h2; omega
  | succ n ih =>
    intro m h1 h2
    rw [fL_same_L738]
    by_cases e : m = 0
    · subst e
      rw [if_pos (by decide)]
    · rw [if_neg (show ¬ nI m ≤ 0 by rw [le_i, nI_toInt (by omega), toInt_0]; omega), q5, z5, w2]
      have e9 : (9 : Int32).toInt = 9 := rfl
      by_cases q : nI m ≤ nI E - 9
      · rw [if_pos q]
      · rw [if_neg q]
        rw [le_i, nI_toInt (by omega), sub_toInt (by rw [nI_toInt (by omega), e9]; omega) (by rw [nI_toInt (by omega), e9]; omega), nI_toInt (by omega), e9] at q
        have g := s_entry h hE Ksz Kcl Kke u7 u8 u10 (m := m) (by omega) h1 (by omega) 2147483648 0 (by omega) (by omega)
        have g : fL_same_L757 ee Ksz Kcl Kke Tma Ttc u7 u8 u10 (nI m) 2147483648 0 = _ := g
        have m1 : nI m + -1 = nI (m - 1) := by rw [← Int32.sub_eq_add_neg]; exact nI_sub (b := 1) (by omega)
        rw [g, bs0_i, m1]
        exact ih (m - 1) (by omega) (by omega)
end AK
