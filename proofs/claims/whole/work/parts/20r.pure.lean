/-! the pure side, r: days pass -/
theorem i32_div30 {d : Nat} (hd : d < 2 ^ 31) : nI d - nI d / 30 * 30 = nI (d % 30) := by
  have e : nI d / 30 = nI (d / 30) := pk_div (a := d) (d := 30) (by omega) (by omega) (by omega)
  rw [e, lit_30, pk_mul, nI_sub (by omega)]
  exact congrArg nI (by omega)
theorem day_i {n C R B E dn : Nat} {Asz : Int32} {Anu : Nat → Int32} {Aba : Nat → Int32} {Amo : Nat → Int32} {Aco : Nat → Int64} {Hsz : Int32} {Hla : Int32} {Hce : Nat → Int32} {Bsz : Int32} {Bla : Int32} {Bce : Nat → Int32} {Tma : Int32} {Tlc : Int32} {Ttc : Nat → Int32} {day : Int32} {lim : Int32} {low : Int32} {hig : Int32} {thr : Int32} {off : Int64} {cre : Int64} {rcp : Int64} {pay : Int64} {st : Nat → Int32} {gr : Nat → Int64} (h : RSc n C R B E dn Asz Anu Aba Amo Aco Hsz Hla Hce Bsz Bla Bce Tma Tlc Ttc day lim low hig thr off cre rcp pay st gr) (hn : n + 13 < 2 ^ 31) (hdn : dn + 1 ≤ 9999) (tb : Int32) (tk : Int64) (Acg : Nat → Int64) (hg : ∀ i, i < C → Acg i = Aco i + growL lim low hig (Aba i)) :
    ∃ Aba' Amo' Aco' Hsz' Hce' T1 T2 T3 cre' st' gr' tb' tk' R' E' s,
      fX8_passesDay st gr tb tk = some (s, st', gr', tb', tk') ∧
      (((dn + 1) % 30 = 0 ∧ fX5_creditAll Asz Anu Aba Amo Acg Tma Tlc Ttc (nI (dn + 1)) thr cre = some (Aba', Amo', Aco', T1, T2, T3, cre')) ∨ (¬ (dn + 1) % 30 = 0 ∧ Aba' = Aba ∧ Amo' = Amo ∧ Aco' = Acg ∧ T1 = Tma ∧ T2 = Tlc ∧ T3 = Ttc ∧ cre' = cre)) ∧
      cre' = cre + s ∧ (0 ≤ s.toInt ∧ s.toInt ≤ 12000000000) ∧ rowsL Hce' R' = (rowsL Hce R).filter (ovr (nI (dn + 1))) ∧
      RSc (n + 12) C R' B E' (dn + 1) Asz Anu Aba' Amo' Aco' Hsz' Hla Hce' Bsz Bla Bce T1 T2 T3 (nI (dn + 1)) lim low hig thr off cre' rcp pay st' gr' := by
  obtain ⟨hc, hi, hr, hrn, hh, hb, hbn, hbi, ht, hv, hE, hs⟩ := h
  obtain ⟨hz, h5, hC⟩ := hc.1
  have hR := hr.1.2.2.1
  have hB := hb.1.2.2.1
  obtain ⟨⟨d1, d2⟩, ⟨s0, s1, s2, s3, s4⟩, ⟨q12, q13, q14, q15⟩, l1, l2, l3, l4⟩ := hs
  have k0 : ∀ {β : Type} (k : Option β), ckI 0 336 k = k := fun k => ckI_ok (i := 0) (by omega) (by omega)
  have k6 : ∀ {β : Type} (k : Option β), ckI 6 336 k = k := fun k => ckI_ok (i := 6) (by omega) (by omega)
  have k13 : ∀ {β : Type} (k : Option β), ckI 13 16 k = k := fun k => ckI_ok (i := 13) (by omega) (by omega)
  have z0 : (0 : Int32).toNatClampNeg = 0 := rfl
  have z6 : (6 : Int32).toNatClampNeg = 6 := rfl
  have z13 : (13 : Int32).toNatClampNeg = 13 := rfl
  obtain ⟨sa, esa⟩ : ∃ x, x = upd st 0 (nI (dn + 1)) := ⟨_, rfl⟩
  have oa : ∀ j, j ≠ 0 → sa j = st j := fun j hj => by rw [esa, upd_n hj]
  have oa0 : sa 0 = nI (dn + 1) := by rw [esa, upd_s]
  have gb : ∀ i, i < C → 0 ≤ (growL lim low hig (Aba i)).toInt ∧ (growL lim low hig (Aba i)).toInt ≤ 2000000000000 := fun i hii => by
    have := hi.1 i hii
    exact growL_b l1.1 l2 l3 (by omega)
  have ga : ∀ i, i < C → (Acg i).toInt = (Aco i).toInt + (growL lim low hig (Aba i)).toInt := fun i hii => by
    have := hi.1 i hii
    have := gb i hii
    rw [hg i hii, add64 (by omega) (by omega)]
  have ig : CIv C Anu Aba Acg (dn + 1) := ⟨fun i hii => by
    have a := hi.1 i hii
    have b := gb i hii
    have c := ga i hii
    push_cast
    omega, hi.2⟩
  have hca : CLr C Asz Anu Aba Amo Aco sa gr := CLr_ext hc (oa _ (by omega)) (fun j _ _ => oa _ (by omega)) (fun _ _ => rfl)
  -- the clients
  have loop : ∃ Aba' Amo' Aco' T1 T2 T3 cre' st' gr' E' tb' tk' s, fX8_passesDay_L14 2147483648 sa gr tb tk 0 0 = some (st', gr', tb', tk', s) ∧ (((dn + 1) % 30 = 0 ∧ fX5_creditAll Asz Anu Aba Amo Acg Tma Tlc Ttc (nI (dn + 1)) thr cre = some (Aba', Amo', Aco', T1, T2, T3, cre')) ∨ (¬ (dn + 1) % 30 = 0 ∧ Aba' = Aba ∧ Amo' = Amo ∧ Aco' = Acg ∧ T1 = Tma ∧ T2 = Tlc ∧ T3 = Ttc ∧ cre' = cre)) ∧ cre' = cre + s ∧ (0 ≤ s.toInt ∧ s.toInt ≤ 12000000000) ∧ CLr C Asz Anu Aba' Amo' Aco' st' gr' ∧ CIv C Anu Aba' Aco' (dn + 1) ∧ TRr E' T1 T2 T3 st' ∧ TIv E' T3 ∧ E' ≤ E + 12 ∧ (∀ i, i < C → (Aba i).toInt ≤ (Aba' i).toInt) ∧ (∀ j, j < 10 → st' j = sa j) ∧ (∀ j, 48 ≤ j → j < 168 → st' j = sa j) ∧ (∀ j, 12 ≤ j → gr' j = gr j) := by
    have hta : TRr E Tma Tlc Ttc sa := TRr_ext ht (oa _ (by omega)) (oa _ (by omega)) (fun j _ _ => oa _ (by omega))
    have e30 := i32_div30 (d := dn + 1) (by omega)
    by_cases q : (dn + 1) % 30 = 0
    · obtain ⟨Aba', Amo', Aco', T1, T2, T3, st', gr', E', tb', tk', s, a1, a2, a3, a4, a5, a6, a7, a8, a9, a10, a11, a12, a13⟩ := credit_L hC hdn (Anu := Anu) (lim := lim) (low := low) (hig := hig) (thr := thr) (day := nI (dn + 1)) (by rw [e30, q]; rfl) 2147483648 0 E Aba Amo Acg Aco Tma Tlc Ttc cre sa gr 0 tb tk (by omega) (by omega) (by omega) ⟨⟨rfl, hca.1.2.1, hC⟩, fun i hii => by
          have := hca.2 i hii
          simp only [Nat.not_lt_zero, if_false]
          exact this⟩ (fun i _ hii => hg i hii) ig hta hv ⟨oa0, by rw [oa _ (by omega)]; exact s1, by rw [oa _ (by omega)]; exact s2, by rw [oa _ (by omega)]; exact s3, by rw [oa _ (by omega)]; exact s4⟩
      rw [nI_0] at a1 a2
      refine ⟨Aba', Amo', Aco', T1, T2, T3, cre + s, st', gr', E', tb', tk', s, by rw [a2, Int64.zero_add], Or.inl ⟨q, ?_⟩, rfl, ⟨a12, by omega⟩, by rw [hz]; exact a3, a4, a5, a6, by omega, a8, a9, a10, a11⟩
      unfold fX5_creditAll
      rw [hz, a1, bd7_s]
    · have b1 : ∀ i, i < C → sa (13 + 3 * i) = Aba i := fun i hii => by rw [oa _ (by omega)]; exact (hc.2 i hii).2.1.symm
      have b2 : ∀ i, i < C → gr i = Aco i := fun i hii => (hc.2 i hii).2.2.2.symm
      obtain ⟨g', tb', tk', p1, p2⟩ := plain_L hC (st := sa) (lim := lim) (low := low) (hig := hig) (thr := thr) (day := nI (dn + 1)) oa0 (by rw [oa _ (by omega)]; exact s1) (by rw [oa _ (by omega)]; exact s2) (by rw [oa _ (by omega)]; exact s3) (by rw [oa _ (by omega)]; exact s4) hca.1.2.1 (by rw [e30]; exact fun z => q (nI_inj (a := (dn + 1) % 30) (b := 0) (by omega) (by omega) z)) 0 2147483648 0 gr tb tk (by omega) (by omega) (fun i _ hii => by
        have a := hi.1 i hii
        have b := gb i hii
        have c := ga i hii
        rw [b1 i hii, b2 i hii, ← hg i hii]
        omega)
      rw [nI_0] at p1
      refine ⟨Aba, Amo, Acg, Tma, Tlc, Ttc, cre, sa, g', E, tb', tk', 0, p1, Or.inr ⟨q, rfl, rfl, rfl, rfl, rfl, rfl, rfl⟩, by rw [Int64.add_zero], ⟨by decide, by decide⟩, ⟨hca.1, fun i hii => ?_⟩, ig, hta, hv, by omega, fun _ _ => Int.le_refl _, fun _ _ => rfl, fun _ _ _ => rfl, fun j hj => by rw [p2 j, if_neg (by omega)]⟩
      obtain ⟨w1, w2, w3, w4⟩ := hca.2 i hii
      refine ⟨w1, w2, w3, ?_⟩
      rw [p2 i, if_pos ⟨by omega, hii⟩, b1 i hii, b2 i hii, hg i hii]
  obtain ⟨Aba', Amo', Aco', T1, T2, T3, cre', st', gr', E', tb', tk', s, m1, m2, m3, m4, m5, m6, m7, m8, m9, m10, m11, m12, m13⟩ := loop
  have r1 : RWr R Hsz Hla Hce st' 6 8 48 := RWr_ext hr (by rw [m11 _ (by omega), oa _ (by omega)]) (by rw [m11 _ (by omega), oa _ (by omega)]) (fun j hj => by rw [m12 _ (by omega) (by omega), oa _ (by omega)])
  have hh1 : HIv C Anu Aba' R Hce day := ⟨hh.1, fun i hii => by have := hh.2 i hii; have := m10 i hii; omega⟩
  obtain ⟨R', Hsz', Hce', st2, n1, n2, n3, n4, n5, n6, n7⟩ := endH_i (day := nI (dn + 1)) s r1 hrn hh1 (by rw [m11 0 (by omega)]; exact oa0)
  refine ⟨Aba', Amo', Aco', Hsz', Hce', T1, T2, T3, cre', st2, vp_updL gr' 13 (gr' 13 + s), tb', tk', R', E', s, ?_, m2, m3, m4, n7, ?_⟩
  · unfold fX8_passesDay
    rw [k0, k0, lts, z0, s0, d1, nI_1, ← esa, m1, bd5_s, k13, k13, lts, z13, k6, lts, z6, r1.1.2.1, n2, bd1_s]
  · have o2 : ∀ j, j ≠ 0 → j ≠ 6 → j < 10 → st2 j = st j := fun j h1 h2 h3 => by rw [n6 j h2 (by omega), m11 j h3, oa j h1]
    have o3 : ∀ j, 108 ≤ j → j < 168 → st2 j = st j := fun j h1 h2 => by rw [n6 j (by omega) (by omega), m12 j (by omega) h2, oa j (by omega)]
    refine ⟨CLr_ext m5 (n6 _ (by omega) (by omega)) (fun j _ _ => n6 _ (by omega) (by omega)) (fun j hj => updL_n (by omega)), m6, n3, NIv_mono n4 (by omega), n5, RWr_ext hb (o2 _ (by omega) (by omega) (by omega)) (o2 _ (by omega) (by omega) (by omega)) (fun j hj => o3 _ (by omega) (by omega)), NIv_mono hbn (by omega), hbi, TRr_ext m7 (n6 _ (by omega) (by omega)) (n6 _ (by omega) (by omega)) (fun j _ _ => n6 _ (by omega) (by omega)), m8, by omega, ⟨rfl, hdn⟩, ⟨?_, ?_, ?_, ?_, ?_⟩, ⟨?_, ?_, ?_, ?_⟩, l1, l2, l3, l4⟩
    · rw [n6 0 (by omega) (by omega), m11 0 (by omega)]; exact oa0
    · rw [o2 _ (by omega) (by omega) (by omega)]; exact s1
    · rw [o2 _ (by omega) (by omega) (by omega)]; exact s2
    · rw [o2 _ (by omega) (by omega) (by omega)]; exact s3
    · rw [o2 _ (by omega) (by omega) (by omega)]; exact s4
    · rw [updL_n (by omega), m13 _ (by omega)]; exact q12
    · rw [updL_s, m13 _ (by omega), q13, m3]
    · rw [updL_n (by omega), m13 _ (by omega)]; exact q14
    · rw [updL_n (by omega), m13 _ (by omega)]; exact q15
