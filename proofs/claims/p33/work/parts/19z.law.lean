set_option maxHeartbeats 4000000 in
set_option maxRecDepth 100000 in
theorem law_main {p : Program} {l : Launch} {e : Env} {s : State} {m : MethodId} {below : List Frame} {meth : Method} {c : Code} {b : Nat} {D : va_G} {cy : Nat → ClassId} {A : Nat → Prop} {Q : State → Prop} {scL : Nat} {scx : Nat → Int32} (C0 : LC p s m c b scL scx D cy A) (ye0 ym0 yq0 yh0 yb0 a0 t0 t1 k0 k1 k2 s0 s1 s2 s3 s4 s5 s6 s7 s8 s9 s10 s11 : Nat) (hd : Nat → Nat) (ee : Nat → Int32) (mm : Nat → Int64) (qq : Nat → Int32) (hh : Nat → Int32) (bb : Nat → Int32) (Xle : Int32) (Xch : Nat → Int32) (Xpo : Int32) (Xltr : Int32) (Xfi : Int32) (Xse : Int32) (Xth : Int32) (Ksz : Int32) (Kcl : Nat → Int32) (Kke : Nat → Int32) (Asz : Int32) (Anu : Nat → Int32) (Aba : Nat → Int32) (Amo : Nat → Int32) (Aco : Nat → Int64) (Hsz : Int32) (Hla : Int32) (Hce : Nat → Int32) (Bsz : Int32) (Bla : Int32) (Bce : Nat → Int32) (Tma : Int32) (Tlc : Int32) (Ttc : Nat → Int32) (day : Int32) (lim : Int32) (low : Int32) (hig : Int32) (thr : Int32) (off : Int64) (cre : Int64) (rcp : Int64) (pay : Int64) (sv : Int32) (nx : Int32) (SL : Nat → XS) (hf : fL_law scL scx ee mm qq hh bb Ksz Kcl Kke Asz Anu Aba Amo Aco Hsz Hla Hce Bsz Bla Bce Tma Tlc Ttc day lim low hig thr off cre rcp pay sv nx SL = some (1 : Int32)) (kret : ∀ (H : Heap) (locs : List Loc) (ls : Array Slot), va_S A s.heap H locs → W p l e room_1 s m #[Value.ref b] below meth c H locs 600000 7302250 Q (F0 m 2311 ls [.int 1])) (H : Heap) (locs : List Loc) (ls : Array Slot) (hP : va_P D vwCl (wAE cy ye0 ee ++ (wAM cy ym0 mm ++ (wAQ cy yq0 qq ++ (wAH cy yh0 hh ++ (wAB cy yb0 bb ++ wX7 cy a0 t0 t1 k0 k1 k2 s0 s1 s2 s3 s4 s5 s6 s7 s8 s9 s10 s11 hd Xle Xch Xpo Xltr Xfi Xse Xth Ksz Kcl Kke Asz Anu Aba Amo Aco Hsz Hla Hce Bsz Bla Bce Tma Tlc Ttc day lim low hig thr off cre rcp pay sv nx SL))))) H) (hD : va_D A (wAE cy ye0 ee ++ (wAM cy ym0 mm ++ (wAQ cy yq0 qq ++ (wAH cy yh0 hh ++ (wAB cy yb0 bb ++ wX7 cy a0 t0 t1 k0 k1 k2 s0 s1 s2 s3 s4 s5 s6 s7 s8 s9 s10 s11 hd Xle Xch Xpo Xltr Xfi Xse Xth Ksz Kcl Kke Asz Anu Aba Amo Aco Hsz Hla Hce Bsz Bla Bce Tma Tlc Ttc day lim low hig thr off cre rcp pay sv nx SL)))))) (hS : va_S A s.heap H locs) (hl : lv_has ls 27 [(0, .ref b), (1, .ref a0), (2, .ref yq0), (3, .ref ym0), (4, .ref yh0), (5, .ref yb0), (6, .ref ye0)]) : W p l e room_1 s m #[Value.ref b] below meth c H locs 600000 7302250 Q (F0 m 36 ls []) := by
  obtain ⟨hx, hb, hml, hown, hts, hXs, hbl, hK, hN, hA, hbA⟩ := id C0
  have hbg : ∀ w ∈ wsL_law, w ∈ wsL_law := fun _ h => h
  have wd0 : (Cond.constant RL 77 (100000)).before #[Value.ref b] s = true := hts _ wm_0_5
  have wd1 : (Cond.constantLong RL 78 (7)).before #[Value.ref b] s = true := hts _ wm_0_6
  unfold fL_law at hf
  refine lv_aload_n hx hb dL_law_36 rfl (lv_at hl 2 rfl) ?_
  refine lv_iconst (v := 1) hx hb dL_law_37 (by decide) ?_
  refine lv_ldc hx hb hown wd0 dL_law_38 ?_
  obtain ⟨hi_1, hf⟩ := ckI_el hf
  obtain ⟨qq_2, eqq_2, hf⟩ := lt_el hf
  refine x_iast hx hb hK hP hD hS 2 rfl hi_1 eqq_2 (w' := wAE cy ye0 ee ++ (wAM cy ym0 mm ++ (wAQ cy yq0 qq_2 ++ (wAH cy yh0 hh ++ (wAB cy yb0 bb ++ wX7 cy a0 t0 t1 k0 k1 k2 s0 s1 s2 s3 s4 s5 s6 s7 s8 s9 s10 s11 hd Xle Xch Xpo Xltr Xfi Xse Xth Ksz Kcl Kke Asz Anu Aba Amo Aco Hsz Hla Hce Bsz Bla Bce Tma Tlc Ttc day lim low hig thr off cre rcp pay sv nx SL))))) rfl dL_law_40 (fun H locs hP hD hS => ?_)
  refine lv_aload_n hx hb dL_law_41 rfl (lv_at hl 2 rfl) ?_
  refine lv_iconst (v := 2) hx hb dL_law_42 (by decide) ?_
  refine lv_bipush (v := 100) hx hb dL_law_43 (by decide) ?_
  obtain ⟨hi_3, hf⟩ := ckI_el hf
  obtain ⟨qq_4, eqq_4, hf⟩ := lt_el hf
  refine x_iast hx hb hK hP hD hS 2 rfl hi_3 eqq_4 (w' := wAE cy ye0 ee ++ (wAM cy ym0 mm ++ (wAQ cy yq0 qq_4 ++ (wAH cy yh0 hh ++ (wAB cy yb0 bb ++ wX7 cy a0 t0 t1 k0 k1 k2 s0 s1 s2 s3 s4 s5 s6 s7 s8 s9 s10 s11 hd Xle Xch Xpo Xltr Xfi Xse Xth Ksz Kcl Kke Asz Anu Aba Amo Aco Hsz Hla Hce Bsz Bla Bce Tma Tlc Ttc day lim low hig thr off cre rcp pay sv nx SL))))) rfl dL_law_45 (fun H locs hP hD hS => ?_)
  refine lv_aload_n hx hb dL_law_46 rfl (lv_at hl 2 rfl) ?_
  refine lv_iconst (v := 3) hx hb dL_law_47 (by decide) ?_
  refine lv_sipush (v := 250) hx hb dL_law_48 (by decide) ?_
  obtain ⟨hi_5, hf⟩ := ckI_el hf
  obtain ⟨qq_6, eqq_6, hf⟩ := lt_el hf
  refine x_iast hx hb hK hP hD hS 2 rfl hi_5 eqq_6 (w' := wAE cy ye0 ee ++ (wAM cy ym0 mm ++ (wAQ cy yq0 qq_6 ++ (wAH cy yh0 hh ++ (wAB cy yb0 bb ++ wX7 cy a0 t0 t1 k0 k1 k2 s0 s1 s2 s3 s4 s5 s6 s7 s8 s9 s10 s11 hd Xle Xch Xpo Xltr Xfi Xse Xth Ksz Kcl Kke Asz Anu Aba Amo Aco Hsz Hla Hce Bsz Bla Bce Tma Tlc Ttc day lim low hig thr off cre rcp pay sv nx SL))))) rfl dL_law_51 (fun H locs hP hD hS => ?_)
  refine lv_aload_n hx hb dL_law_52 rfl (lv_at hl 2 rfl) ?_
  refine lv_iconst (v := 4) hx hb dL_law_53 (by decide) ?_
  refine lv_bipush (v := 20) hx hb dL_law_54 (by decide) ?_
  obtain ⟨hi_7, hf⟩ := ckI_el hf
  obtain ⟨qq_8, eqq_8, hf⟩ := lt_el hf
  refine x_iast hx hb hK hP hD hS 2 rfl hi_7 eqq_8 (w' := wAE cy ye0 ee ++ (wAM cy ym0 mm ++ (wAQ cy yq0 qq_8 ++ (wAH cy yh0 hh ++ (wAB cy yb0 bb ++ wX7 cy a0 t0 t1 k0 k1 k2 s0 s1 s2 s3 s4 s5 s6 s7 s8 s9 s10 s11 hd Xle Xch Xpo Xltr Xfi Xse Xth Ksz Kcl Kke Asz Anu Aba Amo Aco Hsz Hla Hce Bsz Bla Bce Tma Tlc Ttc day lim low hig thr off cre rcp pay sv nx SL))))) rfl dL_law_56 (fun H locs hP hD hS => ?_)
  refine lv_aload_n hx hb dL_law_57 rfl (lv_at hl 3 rfl) ?_
  refine lv_bipush (v := 24) hx hb dL_law_58 (by decide) ?_
  refine lv_ldc2 hx hb hown wd1 dL_law_60 ?_
  obtain ⟨hi_9, hf⟩ := ckI_el hf
  obtain ⟨mm_10, emm_10, hf⟩ := lt_el hf
  refine x_last hx hb hK hP hD hS 1 rfl hi_9 emm_10 (w' := wAE cy ye0 ee ++ (wAM cy ym0 mm_10 ++ (wAQ cy yq0 qq_8 ++ (wAH cy yh0 hh ++ (wAB cy yb0 bb ++ wX7 cy a0 t0 t1 k0 k1 k2 s0 s1 s2 s3 s4 s5 s6 s7 s8 s9 s10 s11 hd Xle Xch Xpo Xltr Xfi Xse Xth Ksz Kcl Kke Asz Anu Aba Amo Aco Hsz Hla Hce Bsz Bla Bce Tma Tlc Ttc day lim low hig thr off cre rcp pay sv nx SL))))) rfl dL_law_63 (fun H locs hP hD hS => ?_)
  refine lv_iconst (v := 0) hx hb dL_law_64 (by decide) ?_
  refine lv_istore (lv' := [(7, .int 0), (0, .ref b), (1, .ref a0), (2, .ref yq0), (3, .ref ym0), (4, .ref yh0), (5, .ref yb0), (6, .ref ye0)]) hx hb dL_law_65 hl (by decide) rfl (fun ls hl => ?_)
  have hL_67 : ∀ (n : Nat) (qq_1177 : Nat → Int32) (z7_1178 : Int32) (o : (Nat → Int32)) (H : Heap) (locs : List Loc) (ls : Array Slot), fL_law_L67  n qq_1177 z7_1178 = some o → va_P D vwCl (wAE cy ye0 ee ++ (wAM cy ym0 mm_10 ++ (wAQ cy yq0 qq_1177 ++ (wAH cy yh0 hh ++ (wAB cy yb0 bb ++ wX7 cy a0 t0 t1 k0 k1 k2 s0 s1 s2 s3 s4 s5 s6 s7 s8 s9 s10 s11 hd Xle Xch Xpo Xltr Xfi Xse Xth Ksz Kcl Kke Asz Anu Aba Amo Aco Hsz Hla Hce Bsz Bla Bce Tma Tlc Ttc day lim low hig thr off cre rcp pay sv nx SL))))) H → va_D A (wAE cy ye0 ee ++ (wAM cy ym0 mm_10 ++ (wAQ cy yq0 qq_1177 ++ (wAH cy yh0 hh ++ (wAB cy yb0 bb ++ wX7 cy a0 t0 t1 k0 k1 k2 s0 s1 s2 s3 s4 s5 s6 s7 s8 s9 s10 s11 hd Xle Xch Xpo Xltr Xfi Xse Xth Ksz Kcl Kke Asz Anu Aba Amo Aco Hsz Hla Hce Bsz Bla Bce Tma Tlc Ttc day lim low hig thr off cre rcp pay sv nx SL))))) → va_S A s.heap H locs → lv_has ls 27 [(0, .ref b), (1, .ref a0), (2, .ref yq0), (3, .ref ym0), (4, .ref yh0), (5, .ref yb0), (6, .ref ye0), (7, .int z7_1178)] → True → ((∀ (qq_1179 : Nat → Int32) , o = qq_1179 → ∀ (H : Heap) (locs : List Loc) (ls : Array Slot), va_P D vwCl (wAE cy ye0 ee ++ (wAM cy ym0 mm_10 ++ (wAQ cy yq0 qq_1179 ++ (wAH cy yh0 hh ++ (wAB cy yb0 bb ++ wX7 cy a0 t0 t1 k0 k1 k2 s0 s1 s2 s3 s4 s5 s6 s7 s8 s9 s10 s11 hd Xle Xch Xpo Xltr Xfi Xse Xth Ksz Kcl Kke Asz Anu Aba Amo Aco Hsz Hla Hce Bsz Bla Bce Tma Tlc Ttc day lim low hig thr off cre rcp pay sv nx SL))))) H → va_D A (wAE cy ye0 ee ++ (wAM cy ym0 mm_10 ++ (wAQ cy yq0 qq_1179 ++ (wAH cy yh0 hh ++ (wAB cy yb0 bb ++ wX7 cy a0 t0 t1 k0 k1 k2 s0 s1 s2 s3 s4 s5 s6 s7 s8 s9 s10 s11 hd Xle Xch Xpo Xltr Xfi Xse Xth Ksz Kcl Kke Asz Anu Aba Amo Aco Hsz Hla Hce Bsz Bla Bce Tma Tlc Ttc day lim low hig thr off cre rcp pay sv nx SL))))) → va_S A s.heap H locs → lv_has ls 27 [(0, .ref b), (1, .ref a0), (2, .ref yq0), (3, .ref ym0), (4, .ref yh0), (5, .ref yb0), (6, .ref ye0)] →  W p l e room_1 s m #[Value.ref b] below meth c H locs 600000 7302250 Q (F0 m 88 ls []))) → W p l e room_1 s m #[Value.ref b] below meth c H locs 600000 7302250 Q (F0 m 67 ls []) := by
    intro n
    induction n with
    | zero =>
      intro qq_1177 z7_1178 o_67 H locs ls hf
      rw [fL_law_L67] at hf
      cases hf
    | succ n ih =>
      intro qq_1177 z7_1178 o_67 H locs ls hf hP hD hS hl hr_67 kx_67
      rw [fL_law_L67] at hf
      refine lv_iload hx hb dL_law_67 (lv_at hl 7 rfl) ?_
      refine lv_bipush (v := 7) hx hb dL_law_69 (by decide) ?_
      refine lv_icmp_ge (tgt := 88) hx hb dL_law_71 (by decide) (fun c_1180 => ?_) (fun c_1180 => ?_)
      · have hf := x_t c_1180 hf
        exact kx_67 qq_1177 (Option.some.inj hf).symm _ _ _ hP hD hS (lv_sub hl [0, 1, 2, 3, 4, 5, 6] rfl)
      · have hf := x_f c_1180 hf
        refine lv_aload_n hx hb dL_law_74 rfl (lv_at hl 2 rfl) ?_
        refine lv_bipush (v := 10) hx hb dL_law_75 (by decide) ?_
        refine lv_iload hx hb dL_law_77 (lv_at hl 7 rfl) ?_
        refine lv_iadd hx hb dL_law_79 ?_
        refine lv_iconst (v := (-1)) hx hb dL_law_80 (by decide) ?_
        obtain ⟨hi_1181, hf⟩ := ckI_el hf
        obtain ⟨qq_1182, eqq_1182, hf⟩ := lt_el hf
        refine x_iast hx hb hK hP hD hS 2 rfl hi_1181 eqq_1182 (w' := wAE cy ye0 ee ++ (wAM cy ym0 mm_10 ++ (wAQ cy yq0 qq_1182 ++ (wAH cy yh0 hh ++ (wAB cy yb0 bb ++ wX7 cy a0 t0 t1 k0 k1 k2 s0 s1 s2 s3 s4 s5 s6 s7 s8 s9 s10 s11 hd Xle Xch Xpo Xltr Xfi Xse Xth Ksz Kcl Kke Asz Anu Aba Amo Aco Hsz Hla Hce Bsz Bla Bce Tma Tlc Ttc day lim low hig thr off cre rcp pay sv nx SL))))) rfl dL_law_81 (fun H locs hP hD hS => ?_)
        refine lv_iinc (v := (z7_1178 + 1)) (lv' := [(7, .int (z7_1178 + 1)), (0, .ref b), (1, .ref a0), (2, .ref yq0), (3, .ref ym0), (4, .ref yh0), (5, .ref yb0), (6, .ref ye0)]) hx hb dL_law_82 hl (k := 7) rfl rfl (by decide) rfl (fun ls hl => ?_)
        refine lv_goto (tgt := 67) hx hb dL_law_85 (by decide) ?_
        exact ih qq_1182 (z7_1178 + 1) _ _ _ _ hf hP hD hS (lv_sub hl [1, 2, 3, 4, 5, 6, 7, 0] rfl) hr_67 kx_67
  obtain ⟨qq_14, h1_67, hf⟩ := bd1_el hf
  refine hL_67 2147483648 qq_8 0 _ _ _ _ h1_67 hP hD hS (lv_sub hl [1, 2, 3, 4, 5, 6, 7, 0] rfl) trivial (fun qq_149 ho H locs ls hP hD hS hl => ?_)
  cases ho
  refine lv_iconst (v := 0) hx hb dL_law_88 (by decide) ?_
  refine lv_istore (lv' := [(7, .int 0), (0, .ref b), (1, .ref a0), (2, .ref yq0), (3, .ref ym0), (4, .ref yh0), (5, .ref yb0), (6, .ref ye0)]) hx hb dL_law_89 hl (by decide) rfl (fun ls hl => ?_)
  refine lv_iconst (v := 0) hx hb dL_law_91 (by decide) ?_
  refine lv_istore (lv' := [(8, .int 0), (7, .int 0), (0, .ref b), (1, .ref a0), (2, .ref yq0), (3, .ref ym0), (4, .ref yh0), (5, .ref yb0), (6, .ref ye0)]) hx hb dL_law_92 hl (by decide) rfl (fun ls hl => ?_)
  have hL_94 : ∀ (n : Nat) (ee_553 : Nat → Int32) (mm_554 : Nat → Int64) (qq_555 : Nat → Int32) (hh_556 : Nat → Int32) (bb_557 : Nat → Int32) (Ksz_558 : Int32) (Kcl_559 : Nat → Int32) (Kke_560 : Nat → Int32) (Asz_561 : Int32) (Anu_562 : Nat → Int32) (Aba_563 : Nat → Int32) (Amo_564 : Nat → Int32) (Aco_565 : Nat → Int64) (Hsz_566 : Int32) (Hla_567 : Int32) (Hce_568 : Nat → Int32) (Bsz_569 : Int32) (Bla_570 : Int32) (Bce_571 : Nat → Int32) (Tma_572 : Int32) (Tlc_573 : Int32) (Ttc_574 : Nat → Int32) (day_575 : Int32) (lim_576 : Int32) (low_577 : Int32) (hig_578 : Int32) (thr_579 : Int32) (off_580 : Int64) (cre_581 : Int64) (rcp_582 : Int64) (pay_583 : Int64) (sv_584 : Int32) (nx_585 : Int32) (SL_586 : Nat → XS) (z7_587 : Int32) (z8_588 : Int32) (o : (Int32) ⊕ (Unit)) (H : Heap) (locs : List Loc) (ls : Array Slot), fL_law_L94 scL scx n ee_553 mm_554 qq_555 hh_556 bb_557 Ksz_558 Kcl_559 Kke_560 Asz_561 Anu_562 Aba_563 Amo_564 Aco_565 Hsz_566 Hla_567 Hce_568 Bsz_569 Bla_570 Bce_571 Tma_572 Tlc_573 Ttc_574 day_575 lim_576 low_577 hig_578 thr_579 off_580 cre_581 rcp_582 pay_583 sv_584 nx_585 SL_586 z7_587 z8_588 = some o → va_P D vwCl (wAE cy ye0 ee_553 ++ (wAM cy ym0 mm_554 ++ (wAQ cy yq0 qq_555 ++ (wAH cy yh0 hh_556 ++ (wAB cy yb0 bb_557 ++ wX7 cy a0 t0 t1 k0 k1 k2 s0 s1 s2 s3 s4 s5 s6 s7 s8 s9 s10 s11 hd Xle Xch Xpo Xltr Xfi Xse Xth Ksz_558 Kcl_559 Kke_560 Asz_561 Anu_562 Aba_563 Amo_564 Aco_565 Hsz_566 Hla_567 Hce_568 Bsz_569 Bla_570 Bce_571 Tma_572 Tlc_573 Ttc_574 day_575 lim_576 low_577 hig_578 thr_579 off_580 cre_581 rcp_582 pay_583 sv_584 nx_585 SL_586))))) H → va_D A (wAE cy ye0 ee_553 ++ (wAM cy ym0 mm_554 ++ (wAQ cy yq0 qq_555 ++ (wAH cy yh0 hh_556 ++ (wAB cy yb0 bb_557 ++ wX7 cy a0 t0 t1 k0 k1 k2 s0 s1 s2 s3 s4 s5 s6 s7 s8 s9 s10 s11 hd Xle Xch Xpo Xltr Xfi Xse Xth Ksz_558 Kcl_559 Kke_560 Asz_561 Anu_562 Aba_563 Amo_564 Aco_565 Hsz_566 Hla_567 Hce_568 Bsz_569 Bla_570 Bce_571 Tma_572 Tlc_573 Ttc_574 day_575 lim_576 low_577 hig_578 thr_579 off_580 cre_581 rcp_582 pay_583 sv_584 nx_585 SL_586))))) → va_S A s.heap H locs → lv_has ls 27 [(0, .ref b), (1, .ref a0), (2, .ref yq0), (3, .ref ym0), (4, .ref yh0), (5, .ref yb0), (6, .ref ye0), (7, .int z7_587), (8, .int z8_588)] → (∀ r', o = .inl r' → r' = (1 : Int32)) → ((o = (.inr ()) → ∀ (H : Heap) (locs : List Loc) (ls : Array Slot), va_S A s.heap H locs →  W p l e room_1 s m #[Value.ref b] below meth c H locs 600000 7302250 Q (F0 m 2310 ls []))) → W p l e room_1 s m #[Value.ref b] below meth c H locs 600000 7302250 Q (F0 m 94 ls []) := by
    intro n
    induction n with
    | zero =>
      intro ee_553 mm_554 qq_555 hh_556 bb_557 Ksz_558 Kcl_559 Kke_560 Asz_561 Anu_562 Aba_563 Amo_564 Aco_565 Hsz_566 Hla_567 Hce_568 Bsz_569 Bla_570 Bce_571 Tma_572 Tlc_573 Ttc_574 day_575 lim_576 low_577 hig_578 thr_579 off_580 cre_581 rcp_582 pay_583 sv_584 nx_585 SL_586 z7_587 z8_588 o_94 H locs ls hf
      rw [fL_law_L94] at hf
      cases hf
    | succ n ih =>
      intro ee_553 mm_554 qq_555 hh_556 bb_557 Ksz_558 Kcl_559 Kke_560 Asz_561 Anu_562 Aba_563 Amo_564 Aco_565 Hsz_566 Hla_567 Hce_568 Bsz_569 Bla_570 Bce_571 Tma_572 Tlc_573 Ttc_574 day_575 lim_576 low_577 hig_578 thr_579 off_580 cre_581 rcp_582 pay_583 sv_584 nx_585 SL_586 z7_587 z8_588 o_94 H locs ls hf hP hD hS hl hr_94 kx_94
      rw [fL_law_L94] at hf
      refine lv_iload hx hb dL_law_94 (lv_at hl 8 rfl) ?_
      refine lv_bipush (v := 40) hx hb dL_law_96 (by decide) ?_
      refine lv_icmp_ge (tgt := 2310) hx hb dL_law_98 (by decide) (fun c_623 => ?_) (fun c_623 => ?_)
      · have hf := x_t c_623 hf
        exact kx_94 (Option.some.inj hf).symm _ _ _ hS
      · have hf := x_f c_623 hf
        refine lv_aload_n hx hb dL_law_101 rfl (lv_at hl 0 rfl) ?_
        refine lv_iconst (v := 2) hx hb dL_law_102 (by decide) ?_
        refine lv_iload hx hb dL_law_103 (lv_at hl 8 rfl) ?_
        refine lv_imul hx hb dL_law_105 ?_
        obtain ⟨r_624, h_625, hf⟩ := bd1_el hf
        refine x_callCell (As := [.ref b, .int (2 * z8_588)]) (rest := []) ⟨hx, hb, hml, hown, hts⟩ (mL_cell l D cy b scL scx (2 * z8_588) r_624 h_625) (va_cwS 2 hts (gcS_L_cell hbg wm_4_13) rfl rfl rfl kdL_cell ⟨Nat.le_of_ble_eq_true rfl, Nat.le_of_ble_eq_true rfl⟩) hP hK hD hN hXs hbl hbA hS hA rfl hl rfl (Nat.le_of_ble_eq_true rfl) dL_law_106 ⟨Nat.le_refl _, Nat.le_refl _⟩ (fun H locs hP hD hS => ?_)
        refine lv_istore (lv' := [(9, .int r_624), (0, .ref b), (1, .ref a0), (2, .ref yq0), (3, .ref ym0), (4, .ref yh0), (5, .ref yb0), (6, .ref ye0), (7, .int z7_587), (8, .int z8_588)]) hx hb dL_law_109 hl (by decide) rfl (fun ls hl => ?_)
        refine lv_aload_n hx hb dL_law_111 rfl (lv_at hl 1 rfl) ?_
        refine lv_iconst (v := 2) hx hb dL_law_112 (by decide) ?_
        refine lv_iload hx hb dL_law_113 (lv_at hl 9 rfl) ?_
        refine lv_imul hx hb dL_law_115 ?_
        refine lv_iconst (v := 1) hx hb dL_law_116 (by decide) ?_
        refine lv_iadd hx hb dL_law_117 ?_
        obtain ⟨r_626, h_627, hf⟩ := bd1_el hf
        refine x_callCell (As := [.ref b, .int ((2 * z8_588) + 1)]) (rest := []) ⟨hx, hb, hml, hown, hts⟩ (mL_cell l D cy b scL scx ((2 * z8_588) + 1) r_626 h_627) (va_cwS 2 hts (gcS_L_cell hbg wm_4_13) rfl rfl rfl kdL_cell ⟨Nat.le_of_ble_eq_true rfl, Nat.le_of_ble_eq_true rfl⟩) hP hK hD hN hXs hbl hbA hS hA rfl hl rfl (Nat.le_of_ble_eq_true rfl) dL_law_118 ⟨Nat.le_refl _, Nat.le_refl _⟩ (fun H locs hP hD hS => ?_)
        refine lv_istore (lv' := [(10, .int r_626), (9, .int r_624), (0, .ref b), (1, .ref a0), (2, .ref yq0), (3, .ref ym0), (4, .ref yh0), (5, .ref yb0), (6, .ref ye0), (7, .int z7_587), (8, .int z8_588)]) hx hb dL_law_121 hl (by decide) rfl (fun ls hl => ?_)
        refine lv_iload hx hb dL_law_123 (lv_at hl 10 rfl) ?_
        refine lv_iconst (v := 4) hx hb dL_law_125 (by decide) ?_
        refine lv_icmp_ge (tgt := 133) hx hb dL_law_126 (by decide) (fun c_628 => ?_) (fun c_628 => ?_)
        · have hf := x_t c_628 hf
          refine lv_iload hx hb dL_law_133 (lv_at hl 10 rfl) ?_
          refine lv_bipush (v := 8) hx hb dL_law_135 (by decide) ?_
          refine lv_icmp_ge (tgt := 144) hx hb dL_law_137 (by decide) (fun c_629 => ?_) (fun c_629 => ?_)
          · have hf := x_t c_629 hf
            refine lv_iload hx hb dL_law_144 (lv_at hl 1 rfl) ?_
            refine lv_bipush (v := 18) hx hb dL_law_146 (by decide) ?_
            obtain ⟨r_630, h_631, hf⟩ := bd1_el hf
            refine x_callSi (As := [.int r_624, .int 18]) (rest := []) ⟨hx, hb, hml, hown, hts⟩ (mL_low l D cy   r_624 18 r_630 h_631) (va_cwS 2 hts (gcS_L_low hbg wm_4_19) rfl rfl rfl kdL_low ⟨Nat.le_of_ble_eq_true rfl, Nat.le_of_ble_eq_true rfl⟩) (w1 := []) (w2 := wAE cy ye0 ee_553 ++ (wAM cy ym0 mm_554 ++ (wAQ cy yq0 qq_555 ++ (wAH cy yh0 hh_556 ++ (wAB cy yb0 bb_557 ++ wX7 cy a0 t0 t1 k0 k1 k2 s0 s1 s2 s3 s4 s5 s6 s7 s8 s9 s10 s11 hd Xle Xch Xpo Xltr Xfi Xse Xth Ksz_558 Kcl_559 Kke_560 Asz_561 Anu_562 Aba_563 Amo_564 Aco_565 Hsz_566 Hla_567 Hce_568 Bsz_569 Bla_570 Bce_571 Tma_572 Tlc_573 Ttc_574 day_575 lim_576 low_577 hig_578 thr_579 off_580 cre_581 rcp_582 pay_583 sv_584 nx_585 SL_586))))) (w' := wAE cy ye0 ee_553 ++ (wAM cy ym0 mm_554 ++ (wAQ cy yq0 qq_555 ++ (wAH cy yh0 hh_556 ++ (wAB cy yb0 bb_557 ++ wX7 cy a0 t0 t1 k0 k1 k2 s0 s1 s2 s3 s4 s5 s6 s7 s8 s9 s10 s11 hd Xle Xch Xpo Xltr Xfi Xse Xth Ksz_558 Kcl_559 Kke_560 Asz_561 Anu_562 Aba_563 Amo_564 Aco_565 Hsz_566 Hla_567 Hce_568 Bsz_569 Bla_570 Bce_571 Tma_572 Tlc_573 Ttc_574 day_575 lim_576 low_577 hig_578 thr_579 off_580 cre_581 rcp_582 pay_583 sv_584 nx_585 SL_586))))) rfl rfl hP hK hD hN hS hA rfl hl rfl (Nat.le_of_ble_eq_true rfl) dL_law_148 ⟨Nat.le_refl _, Nat.le_refl _⟩ (fun H locs hP hD hS => ?_)
            exact (hfL_law_J151 C0 ye0 ym0 yq0 yh0 yb0 a0 t0 t1 k0 k1 k2 s0 s1 s2 s3 s4 s5 s6 s7 s8 s9 s10 s11 hd Xle Xch Xpo Xltr Xfi Xse Xth (fL_law_L94 scL scx n) o_94 ih hr_94 kx_94) ee_553 mm_554 qq_555 hh_556 bb_557 Ksz_558 Kcl_559 Kke_560 Asz_561 Anu_562 Aba_563 Amo_564 Aco_565 Hsz_566 Hla_567 Hce_568 Bsz_569 Bla_570 Bce_571 Tma_572 Tlc_573 Ttc_574 day_575 lim_576 low_577 hig_578 thr_579 off_580 cre_581 rcp_582 pay_583 sv_584 nx_585 SL_586 z7_587 z8_588 r_624 r_626 r_630 _ _ _ hf hP hD hS (lv_sub hl [2, 3, 4, 5, 6, 7, 8, 9, 10, 1, 0] rfl)
          · have hf := x_f c_629 hf
            refine lv_iconst (v := 1) hx hb dL_law_140 (by decide) ?_
            refine lv_goto (tgt := 151) hx hb dL_law_141 (by decide) ?_
            exact (hfL_law_J151 C0 ye0 ym0 yq0 yh0 yb0 a0 t0 t1 k0 k1 k2 s0 s1 s2 s3 s4 s5 s6 s7 s8 s9 s10 s11 hd Xle Xch Xpo Xltr Xfi Xse Xth (fL_law_L94 scL scx n) o_94 ih hr_94 kx_94) ee_553 mm_554 qq_555 hh_556 bb_557 Ksz_558 Kcl_559 Kke_560 Asz_561 Anu_562 Aba_563 Amo_564 Aco_565 Hsz_566 Hla_567 Hce_568 Bsz_569 Bla_570 Bce_571 Tma_572 Tlc_573 Ttc_574 day_575 lim_576 low_577 hig_578 thr_579 off_580 cre_581 rcp_582 pay_583 sv_584 nx_585 SL_586 z7_587 z8_588 r_624 r_626 1 _ _ _ hf hP hD hS (lv_sub hl [2, 3, 4, 5, 6, 7, 8, 9, 10, 1, 0] rfl)
        · have hf := x_f c_628 hf
          refine lv_iconst (v := 0) hx hb dL_law_129 (by decide) ?_
          refine lv_goto (tgt := 151) hx hb dL_law_130 (by decide) ?_
          exact (hfL_law_J151 C0 ye0 ym0 yq0 yh0 yb0 a0 t0 t1 k0 k1 k2 s0 s1 s2 s3 s4 s5 s6 s7 s8 s9 s10 s11 hd Xle Xch Xpo Xltr Xfi Xse Xth (fL_law_L94 scL scx n) o_94 ih hr_94 kx_94) ee_553 mm_554 qq_555 hh_556 bb_557 Ksz_558 Kcl_559 Kke_560 Asz_561 Anu_562 Aba_563 Amo_564 Aco_565 Hsz_566 Hla_567 Hce_568 Bsz_569 Bla_570 Bce_571 Tma_572 Tlc_573 Ttc_574 day_575 lim_576 low_577 hig_578 thr_579 off_580 cre_581 rcp_582 pay_583 sv_584 nx_585 SL_586 z7_587 z8_588 r_624 r_626 0 _ _ _ hf hP hD hS (lv_sub hl [2, 3, 4, 5, 6, 7, 8, 9, 10, 1, 0] rfl)
  obtain ⟨o_94, h1_94, hr_94, hf⟩ := bs0_el hf
  refine hL_94 2147483648 ee mm_10 qq_14 hh bb Ksz Kcl Kke Asz Anu Aba Amo Aco Hsz Hla Hce Bsz Bla Bce Tma Tlc Ttc day lim low hig thr off cre rcp pay sv nx SL 0 0 o_94 _ _ _ h1_94 hP hD hS (lv_sub hl [2, 3, 4, 5, 6, 7, 8, 1, 0] rfl) hr_94 (fun ho H locs ls hS => ?_)
  have hf := hf () ho
  refine lv_iconst (v := 1) hx hb dL_law_2310 (by decide) ?_
  have hf := Option.some.inj hf
  exact kret _ _ _ hS
