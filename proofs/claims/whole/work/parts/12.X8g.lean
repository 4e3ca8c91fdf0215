theorem kdX8_undo : yX8_undo.cls = RX8 ∧ yX8_undo.cls ≠ "java/lang/invoke/MethodHandle" ∧ yX8_undo.cls ≠ "java/lang/invoke/VarHandle" ∧ (parseMethodDescriptor yX8_undo.desc).map (fun d => d.parameters.length) = some 0 := by decide +kernel
def rmX8_undo : Room := { frames := 0, cells := 0, slots := 0, locals := 0 }
set_option maxHeartbeats 4000000 in
set_option maxRecDepth 100000 in
theorem mX8_undo (l : Launch) (D : va_G) (cy : Nat → ClassId) (a0 a1 a2 a3 a4 a5 a6 : Nat) (st : Nat → Int32) (gr : Nat → Int64) (hi : Nat → Int32) (gh : Nat → Int64) (rc : Int32) (tx : Nat → Int32) (tl : Int32) (rk : Nat → Int32) (tb : Int32) (tk : Int64) (at_ : Int32) (ltr : Int32) (on_ : Int32) (tw : Int32) (th : Int32) (nu : Int32)  (r : Int32) (st' : Nat → Int32) (gr' : Nat → Int64) (rc' : Int32) (hf : fX8_undo st gr hi gh rc = some (r, st', gr', rc')) : xMi l D cy yX8_undo aX8_undo rmX8_undo ([.ref a0] : List Value) (wX8 cy a0 a1 a2 a3 a4 a5 a6 st gr hi gh rc tx tl rk tb tk at_ ltr on_ tw th nu) (wX8 cy a0 a1 a2 a3 a4 a5 a6 st' gr' hi gh rc' tx tl rk tb tk at_ ltr on_ tw th nu) r := by
  intro hz
  refine x_start (Qc := xQi D cy _ r) (cc := cX8_undo) (maxL := 2) (ret := (some .int)) (by decide) rfl (Nat.le_of_ble_eq_true rfl) (lv := [(0, .ref a0)]) rfl ?_
  intro p e s m below meth c ls A hx hb hr hml hown hts hlocks hK hP hD hS hA hN hl
  have hown : s.vm.findClass RX8 = some m.cls := hown
  have hbg : ∀ w ∈ wsL_law, w ∈ aX8_undo := fun w h => List.mem_cons_of_mem _ h
  have wd0 : (Cond.fieldLink RX8 30 "ClientMoneyBookModel" "recorded" "I").before ([.ref a0] : List Value).toArray s = true := hts _ (List.mem_cons_of_mem _ wm_7_7)
  have wd1 : (Cond.fieldLink RX8 7 "ClientMoneyBookModel" "state" "[I").before ([.ref a0] : List Value).toArray s = true := hts _ (List.mem_cons_of_mem _ wm_4_9)
  have wd2 : (Cond.fieldLink RX8 17 "ClientMoneyBookModel" "history" "[I").before ([.ref a0] : List Value).toArray s = true := hts _ (List.mem_cons_of_mem _ wm_4_11)
  have wd3 : (Cond.fieldLink RX8 13 "ClientMoneyBookModel" "great" "[J").before ([.ref a0] : List Value).toArray s = true := hts _ (List.mem_cons_of_mem _ wm_4_10)
  have wd4 : (Cond.fieldLink RX8 20 "ClientMoneyBookModel" "greatHistory" "[J").before ([.ref a0] : List Value).toArray s = true := hts _ (List.mem_cons_of_mem _ wm_4_12)
  have iX8 : ∀ w ∈ u_ws RX8 TX8 16, w ∈ aX8_undo := fun w h => List.mem_cons_of_mem _ (inlX8 w h)
  unfold fX8_undo at hf
  refine lv_aload_n hx hb dX8_undo_0 rfl (lv_at hl 0 rfl) ?_
  refine x_get hx hb (C := RX8) (T := TX8) (N := 16) (ci := 8) hts iX8 hown hK hP 0 rfl rfl 4 (by decide) wd0 rfl (.int rc) rfl dX8_undo_1 ?_
  refine lv_if_ne (tgt := 10) hx hb dX8_undo_4 (by decide) (fun c_1 => ?_) (fun c_1 => ?_)
  · have hf := x_f c_1 hf
    refine lv_aload_n hx hb dX8_undo_10 rfl (lv_at hl 0 rfl) ?_
    refine lv_dup hx hb dX8_undo_11 rfl ?_
    refine x_get hx hb (C := RX8) (T := TX8) (N := 16) (ci := 8) hts iX8 hown hK hP 0 rfl rfl 4 (by decide) wd0 rfl (.int rc) rfl dX8_undo_12 ?_
    refine lv_iconst (v := 1) hx hb dX8_undo_15 (by decide) ?_
    refine lv_isub hx hb dX8_undo_16 ?_
    obtain ⟨rc_2, erc_2, hf⟩ := lt_el hf
    refine x_topi erc_2 ?_
    refine x_put hx hb (C := RX8) (T := TX8) (N := 16) (ci := 8) hts iX8 tyX8 tyX8_ok nmX8 hown hK hP hD hS 0 rfl rfl 4 (by decide) wd0 rfl rfl (ty := .int) rfl rfl rfl (Nat.le_of_ble_eq_true rfl) (w' := wX8 cy a0 a1 a2 a3 a4 a5 a6 st gr hi gh rc_2 tx tl rk tb tk at_ ltr on_ tw th nu) rfl dX8_undo_17 (fun H locs hP hD hS => ?_)
    refine lv_iconst (v := 0) hx hb dX8_undo_20 (by decide) ?_
    refine lv_istore_n (lv' := [(1, .int 0), (0, .ref a0)]) hx hb dX8_undo_21 rfl hl (by decide) rfl (fun ls hl => ?_)
    have hL_22 : ∀ (n : Nat) (st_20 : Nat → Int32) (z1_21 : Int32) (o : (Nat → Int32)) (H : Heap) (locs : List Loc) (ls : Array Slot), fX8_undo_L22 hi rc_2 n st_20 z1_21 = some o → va_P D vwCl (wX8 cy a0 a1 a2 a3 a4 a5 a6 st_20 gr hi gh rc_2 tx tl rk tb tk at_ ltr on_ tw th nu) H → va_D A (wX8 cy a0 a1 a2 a3 a4 a5 a6 st_20 gr hi gh rc_2 tx tl rk tb tk at_ ltr on_ tw th nu) → va_S A s.heap H locs → lv_has ls 2 [(0, .ref a0), (1, .int z1_21)] → True → ((∀ (st_22 : Nat → Int32) , o = st_22 → ∀ (H : Heap) (locs : List Loc) (ls : Array Slot), va_P D vwCl (wX8 cy a0 a1 a2 a3 a4 a5 a6 st_22 gr hi gh rc_2 tx tl rk tb tk at_ ltr on_ tw th nu) H → va_D A (wX8 cy a0 a1 a2 a3 a4 a5 a6 st_22 gr hi gh rc_2 tx tl rk tb tk at_ ltr on_ tw th nu) → va_S A s.heap H locs → lv_has ls 2 [(0, .ref a0)] → W p l e rmX8_undo s m ([.ref a0] : List Value).toArray below meth c H locs 0 0 (MQ below (xQi D cy (wX8 cy a0 a1 a2 a3 a4 a5 a6 st' gr' hi gh rc' tx tl rk tb tk at_ ltr on_ tw th nu) r A) ([.ref a0] : List Value).toArray s 0 0 A) (F0 m 56 ls []))) → W p l e rmX8_undo s m ([.ref a0] : List Value).toArray below meth c H locs 0 0 (MQ below (xQi D cy (wX8 cy a0 a1 a2 a3 a4 a5 a6 st' gr' hi gh rc' tx tl rk tb tk at_ ltr on_ tw th nu) r A) ([.ref a0] : List Value).toArray s 0 0 A) (F0 m 22 ls []) := by
      intro n
      induction n with
      | zero =>
        intro st_20 z1_21 o_22 H locs ls hf
        rw [fX8_undo_L22] at hf
        cases hf
      | succ n ih =>
        intro st_20 z1_21 o_22 H locs ls hf hP hD hS hl hr_22 kx_22
        rw [fX8_undo_L22] at hf
        refine lv_iload_n hx hb dX8_undo_22 rfl (lv_at hl 1 rfl) ?_
        refine lv_sipush (v := 336) hx hb dX8_undo_23 (by decide) ?_
        refine lv_icmp_ge (tgt := 56) hx hb dX8_undo_26 (by decide) (fun c_23 => ?_) (fun c_23 => ?_)
        · have hf := x_t c_23 hf
          exact kx_22 st_20 (Option.some.inj hf).symm _ _ _ hP hD hS (lv_sub hl [0] rfl)
        · have hf := x_f c_23 hf
          refine lv_aload_n hx hb dX8_undo_29 rfl (lv_at hl 0 rfl) ?_
          refine x_get hx hb (C := RX8) (T := TX8) (N := 16) (ci := 8) hts iX8 hown hK hP 0 rfl rfl 0 (by decide) wd1 rfl (.ref a1) rfl dX8_undo_30 ?_
          refine lv_iload_n hx hb dX8_undo_33 rfl (lv_at hl 1 rfl) ?_
          refine lv_aload_n hx hb dX8_undo_34 rfl (lv_at hl 0 rfl) ?_
          refine x_get hx hb (C := RX8) (T := TX8) (N := 16) (ci := 8) hts iX8 hown hK hP 0 rfl rfl 2 (by decide) wd2 rfl (.ref a3) rfl dX8_undo_35 ?_
          refine lv_aload_n hx hb dX8_undo_38 rfl (lv_at hl 0 rfl) ?_
          refine x_get hx hb (C := RX8) (T := TX8) (N := 16) (ci := 8) hts iX8 hown hK hP 0 rfl rfl 4 (by decide) wd0 rfl (.int rc_2) rfl dX8_undo_39 ?_
          refine lv_sipush (v := 336) hx hb dX8_undo_42 (by decide) ?_
          refine lv_imul hx hb dX8_undo_45 ?_
          refine lv_iload_n hx hb dX8_undo_46 rfl (lv_at hl 1 rfl) ?_
          refine lv_iadd hx hb dX8_undo_47 ?_
          obtain ⟨hi_24, hf⟩ := ckI_el hf
          refine va_iald hx hb hK hP 3 1 rfl rfl hi_24 dX8_undo_48 ?_
          obtain ⟨hi_25, hf⟩ := ckI_el hf
          obtain ⟨st_26, est_26, hf⟩ := lt_el hf
          refine x_iast hx hb hK hP hD hS 1 rfl hi_25 est_26 (w' := wX8 cy a0 a1 a2 a3 a4 a5 a6 st_26 gr hi gh rc_2 tx tl rk tb tk at_ ltr on_ tw th nu) rfl dX8_undo_49 (fun H locs hP hD hS => ?_)
          refine lv_iinc (v := (z1_21 + 1)) (lv' := [(1, .int (z1_21 + 1)), (0, .ref a0)]) hx hb dX8_undo_50 hl (k := 1) rfl rfl (by decide) rfl (fun ls hl => ?_)
          refine lv_goto (tgt := 22) hx hb dX8_undo_53 (by decide) ?_
          exact ih st_26 (z1_21 + 1) _ _ _ _ hf hP hD hS (lv_sub hl [1, 0] rfl) hr_22 kx_22
    obtain ⟨st_7, h1_22, hf⟩ := bd1_el hf
    refine hL_22 2147483648 st 0 _ _ _ _ h1_22 hP hD hS (lv_sub hl [1, 0] rfl) trivial (fun st_79 ho H locs ls hP hD hS hl => ?_)
    cases ho
    refine lv_iconst (v := 0) hx hb dX8_undo_56 (by decide) ?_
    refine lv_istore_n (lv' := [(1, .int 0), (0, .ref a0)]) hx hb dX8_undo_57 rfl hl (by decide) rfl (fun ls hl => ?_)
    have hL_58 : ∀ (n : Nat) (gr_13 : Nat → Int64) (z1_14 : Int32) (o : (Nat → Int64)) (H : Heap) (locs : List Loc) (ls : Array Slot), fX8_undo_L58 gh rc_2 n gr_13 z1_14 = some o → va_P D vwCl (wX8 cy a0 a1 a2 a3 a4 a5 a6 st_7 gr_13 hi gh rc_2 tx tl rk tb tk at_ ltr on_ tw th nu) H → va_D A (wX8 cy a0 a1 a2 a3 a4 a5 a6 st_7 gr_13 hi gh rc_2 tx tl rk tb tk at_ ltr on_ tw th nu) → va_S A s.heap H locs → lv_has ls 2 [(0, .ref a0), (1, .int z1_14)] → True → ((∀ (gr_15 : Nat → Int64) , o = gr_15 → ∀ (H : Heap) (locs : List Loc) (ls : Array Slot), va_P D vwCl (wX8 cy a0 a1 a2 a3 a4 a5 a6 st_7 gr_15 hi gh rc_2 tx tl rk tb tk at_ ltr on_ tw th nu) H → va_D A (wX8 cy a0 a1 a2 a3 a4 a5 a6 st_7 gr_15 hi gh rc_2 tx tl rk tb tk at_ ltr on_ tw th nu) → va_S A s.heap H locs → lv_has ls 2 [(0, .ref a0)] → W p l e rmX8_undo s m ([.ref a0] : List Value).toArray below meth c H locs 0 0 (MQ below (xQi D cy (wX8 cy a0 a1 a2 a3 a4 a5 a6 st' gr' hi gh rc' tx tl rk tb tk at_ ltr on_ tw th nu) r A) ([.ref a0] : List Value).toArray s 0 0 A) (F0 m 90 ls []))) → W p l e rmX8_undo s m ([.ref a0] : List Value).toArray below meth c H locs 0 0 (MQ below (xQi D cy (wX8 cy a0 a1 a2 a3 a4 a5 a6 st' gr' hi gh rc' tx tl rk tb tk at_ ltr on_ tw th nu) r A) ([.ref a0] : List Value).toArray s 0 0 A) (F0 m 58 ls []) := by
      intro n
      induction n with
      | zero =>
        intro gr_13 z1_14 o_58 H locs ls hf
        rw [fX8_undo_L58] at hf
        cases hf
      | succ n ih =>
        intro gr_13 z1_14 o_58 H locs ls hf hP hD hS hl hr_58 kx_58
        rw [fX8_undo_L58] at hf
        refine lv_iload_n hx hb dX8_undo_58 rfl (lv_at hl 1 rfl) ?_
        refine lv_bipush (v := 16) hx hb dX8_undo_59 (by decide) ?_
        refine lv_icmp_ge (tgt := 90) hx hb dX8_undo_61 (by decide) (fun c_16 => ?_) (fun c_16 => ?_)
        · have hf := x_t c_16 hf
          exact kx_58 gr_13 (Option.some.inj hf).symm _ _ _ hP hD hS (lv_sub hl [0] rfl)
        · have hf := x_f c_16 hf
          refine lv_aload_n hx hb dX8_undo_64 rfl (lv_at hl 0 rfl) ?_
          refine x_get hx hb (C := RX8) (T := TX8) (N := 16) (ci := 8) hts iX8 hown hK hP 0 rfl rfl 1 (by decide) wd3 rfl (.ref a2) rfl dX8_undo_65 ?_
          refine lv_iload_n hx hb dX8_undo_68 rfl (lv_at hl 1 rfl) ?_
          refine lv_aload_n hx hb dX8_undo_69 rfl (lv_at hl 0 rfl) ?_
          refine x_get hx hb (C := RX8) (T := TX8) (N := 16) (ci := 8) hts iX8 hown hK hP 0 rfl rfl 3 (by decide) wd4 rfl (.ref a4) rfl dX8_undo_70 ?_
          refine lv_aload_n hx hb dX8_undo_73 rfl (lv_at hl 0 rfl) ?_
          refine x_get hx hb (C := RX8) (T := TX8) (N := 16) (ci := 8) hts iX8 hown hK hP 0 rfl rfl 4 (by decide) wd0 rfl (.int rc_2) rfl dX8_undo_74 ?_
          refine lv_bipush (v := 16) hx hb dX8_undo_77 (by decide) ?_
          refine lv_imul hx hb dX8_undo_79 ?_
          refine lv_iload_n hx hb dX8_undo_80 rfl (lv_at hl 1 rfl) ?_
          refine lv_iadd hx hb dX8_undo_81 ?_
          obtain ⟨hi_17, hf⟩ := ckI_el hf
          refine va_lald hx hb hK hP 4 2 rfl rfl hi_17 dX8_undo_82 ?_
          obtain ⟨hi_18, hf⟩ := ckI_el hf
          obtain ⟨gr_19, egr_19, hf⟩ := lt_el hf
          refine x_last hx hb hK hP hD hS 2 rfl hi_18 egr_19 (w' := wX8 cy a0 a1 a2 a3 a4 a5 a6 st_7 gr_19 hi gh rc_2 tx tl rk tb tk at_ ltr on_ tw th nu) rfl dX8_undo_83 (fun H locs hP hD hS => ?_)
          refine lv_iinc (v := (z1_14 + 1)) (lv' := [(1, .int (z1_14 + 1)), (0, .ref a0)]) hx hb dX8_undo_84 hl (k := 1) rfl rfl (by decide) rfl (fun ls hl => ?_)
          refine lv_goto (tgt := 58) hx hb dX8_undo_87 (by decide) ?_
          exact ih gr_19 (z1_14 + 1) _ _ _ _ hf hP hD hS (lv_sub hl [1, 0] rfl) hr_58 kx_58
    obtain ⟨gr_12, h1_58, hf⟩ := bd1_el hf
    refine hL_58 2147483648 gr 0 _ _ _ _ h1_58 hP hD hS (lv_sub hl [1, 0] rfl) trivial (fun gr_129 ho H locs ls hP hD hS hl => ?_)
    cases ho
    refine lv_aload_n hx hb dX8_undo_90 rfl (lv_at hl 0 rfl) ?_
    refine x_get hx hb (C := RX8) (T := TX8) (N := 16) (ci := 8) hts iX8 hown hK hP 0 rfl rfl 4 (by decide) wd0 rfl (.int rc_2) rfl dX8_undo_91 ?_
    have hf := Option.some.inj hf
    cases hf
    exact x_iret hx hb hr hlocks hK hP hD hS dX8_undo_94
  · have hf := x_t c_1 hf
    refine lv_bipush (v := (-3)) hx hb dX8_undo_7 (by decide) ?_
    have hf := Option.some.inj hf
    cases hf
    exact x_iret hx hb hr hlocks hK hP hD hS dX8_undo_9
theorem kdX8_digest : yX8_digest.cls = RX8 ∧ yX8_digest.cls ≠ "java/lang/invoke/MethodHandle" ∧ yX8_digest.cls ≠ "java/lang/invoke/VarHandle" ∧ (parseMethodDescriptor yX8_digest.desc).map (fun d => d.parameters.length) = some 0 := by decide +kernel
def rmX8_digest : Room := { frames := 6, cells := 0, slots := 0, locals := 134 }
set_option maxHeartbeats 4000000 in
set_option maxRecDepth 100000 in
theorem mX8_digest (l : Launch) (D : va_G) (cy : Nat → ClassId) (a0 a1 a2 a3 a4 a5 a6 : Nat) (st : Nat → Int32) (gr : Nat → Int64) (hi : Nat → Int32) (gh : Nat → Int64) (rc : Int32) (tx : Nat → Int32) (tl : Int32) (rk : Nat → Int32) (tb : Int32) (tk : Int64) (at_ : Int32) (ltr : Int32) (on_ : Int32) (tw : Int32) (th : Int32) (nu : Int32)  (r : Int64) (rk' : Nat → Int32) (hf : fX8_digest st gr rk = some (r, rk')) : xMl l D cy yX8_digest aX8_digest rmX8_digest ([.ref a0] : List Value) (wX8 cy a0 a1 a2 a3 a4 a5 a6 st gr hi gh rc tx tl rk tb tk at_ ltr on_ tw th nu) (wX8 cy a0 a1 a2 a3 a4 a5 a6 st gr hi gh rc tx tl rk' tb tk at_ ltr on_ tw th nu) r := by
  intro hz
  refine x_start (Qc := xQl D cy _ r) (cc := cX8_digest) (maxL := 5) (ret := (some .long)) (by decide) rfl (Nat.le_of_ble_eq_true rfl) (lv := [(0, .ref a0)]) rfl ?_
  intro p e s m below meth c ls A hx hb hr hml hown hts hlocks hK hP hD hS hA hN hl
  have hown : s.vm.findClass RX8 = some m.cls := hown
  have hbg : ∀ w ∈ wsL_law, w ∈ aX8_digest := fun w h => List.mem_cons_of_mem _ h
  have wd0 : (Cond.constantLong RX8 251 (202)).before ([.ref a0] : List Value).toArray s = true := hts _ (List.mem_cons_of_mem _ wm_43_15)
  have wd1 : (Cond.constantLong RX8 53 (31)).before ([.ref a0] : List Value).toArray s = true := hts _ (List.mem_cons_of_mem _ wm_14_2)
  have wd2 : (Cond.fieldLink RX8 7 "ClientMoneyBookModel" "state" "[I").before ([.ref a0] : List Value).toArray s = true := hts _ (List.mem_cons_of_mem _ wm_4_9)
  have wd3 : (Cond.fieldLink RX8 26 "ClientMoneyBookModel" "ranks" "[I").before ([.ref a0] : List Value).toArray s = true := hts _ (List.mem_cons_of_mem _ wm_4_14)
  have iX8 : ∀ w ∈ u_ws RX8 TX8 16, w ∈ aX8_digest := fun w h => List.mem_cons_of_mem _ (inlX8 w h)
  unfold fX8_digest at hf
  refine lv_ldc2 hx hb hown wd0 dX8_digest_0 ?_
  refine lv_lstore_n (lv' := [(1, .long 202), (0, .ref a0)]) hx hb dX8_digest_3 rfl hl (by decide) rfl (fun ls hl => ?_)
  refine lv_ldc2 hx hb hown wd1 dX8_digest_4 ?_
  refine lv_lload_n hx hb dX8_digest_7 rfl (lv_at hl 0 rfl) ?_
  refine lv_lmul hx hb dX8_digest_8 ?_
  refine lv_aload_n hx hb dX8_digest_9 rfl (lv_at hl 1 rfl) ?_
  refine x_get hx hb (C := RX8) (T := TX8) (N := 16) (ci := 8) hts iX8 hown hK hP 0 rfl rfl 0 (by decide) wd2 rfl (.ref a1) rfl dX8_digest_10 ?_
  refine lv_iconst (v := 0) hx hb dX8_digest_13 (by decide) ?_
  obtain ⟨hi_1, hf⟩ := ckI_el hf
  refine va_iald hx hb hK hP 1 1 rfl rfl hi_1 dX8_digest_14 ?_
  refine lv_i2l (v := (st (0 : Int32).toNatClampNeg).toInt64) hx hb dX8_digest_15 rfl ?_
  refine lv_ladd hx hb dX8_digest_16 ?_
  obtain ⟨x1_2, ex1_2, hf⟩ := lt_el hf
  refine x_topl ex1_2 ?_
  refine lv_lstore_n (lv' := [(1, .long x1_2), (0, .ref a0)]) hx hb dX8_digest_17 rfl hl (by decide) rfl (fun ls hl => ?_)
  refine lv_ldc2 hx hb hown wd1 dX8_digest_18 ?_
  refine lv_lload_n hx hb dX8_digest_21 rfl (lv_at hl 0 rfl) ?_
  refine lv_lmul hx hb dX8_digest_22 ?_
  refine lv_aload_n hx hb dX8_digest_23 rfl (lv_at hl 1 rfl) ?_
  refine x_get hx hb (C := RX8) (T := TX8) (N := 16) (ci := 8) hts iX8 hown hK hP 0 rfl rfl 0 (by decide) wd2 rfl (.ref a1) rfl dX8_digest_24 ?_
  refine lv_iconst (v := 5) hx hb dX8_digest_27 (by decide) ?_
  obtain ⟨hi_3, hf⟩ := ckI_el hf
  refine va_iald hx hb hK hP 1 1 rfl rfl hi_3 dX8_digest_28 ?_
  refine lv_i2l (v := (st (5 : Int32).toNatClampNeg).toInt64) hx hb dX8_digest_29 rfl ?_
  refine lv_ladd hx hb dX8_digest_30 ?_
  obtain ⟨x1_4, ex1_4, hf⟩ := lt_el hf
  refine x_topl ex1_4 ?_
  refine lv_lstore_n (lv' := [(1, .long x1_4), (0, .ref a0)]) hx hb dX8_digest_31 rfl hl (by decide) rfl (fun ls hl => ?_)
  refine lv_iconst (v := 0) hx hb dX8_digest_32 (by decide) ?_
  refine lv_istore_n (lv' := [(3, .int 0), (1, .long x1_4), (0, .ref a0)]) hx hb dX8_digest_33 rfl hl (by decide) rfl (fun ls hl => ?_)
  have hL_34 : ∀ (n : Nat) (z1_111 : Int64) (z3_112 : Int32) (o : Int64) (H : Heap) (locs : List Loc) (ls : Array Slot), fX8_digest_L34 st gr n z1_111 z3_112 = some o → va_P D vwCl (wX8 cy a0 a1 a2 a3 a4 a5 a6 st gr hi gh rc tx tl rk tb tk at_ ltr on_ tw th nu) H → va_D A (wX8 cy a0 a1 a2 a3 a4 a5 a6 st gr hi gh rc tx tl rk tb tk at_ ltr on_ tw th nu) → va_S A s.heap H locs → lv_has ls 5 [(0, .ref a0), (1, .long z1_111), (3, .int z3_112)] → True → ((∀ (x1_113 : Int64) , o = x1_113 → ∀ (H : Heap) (locs : List Loc) (ls : Array Slot), va_P D vwCl (wX8 cy a0 a1 a2 a3 a4 a5 a6 st gr hi gh rc tx tl rk tb tk at_ ltr on_ tw th nu) H → va_D A (wX8 cy a0 a1 a2 a3 a4 a5 a6 st gr hi gh rc tx tl rk tb tk at_ ltr on_ tw th nu) → va_S A s.heap H locs → lv_has ls 5 [(0, .ref a0), (1, .long x1_113)] → W p l e rmX8_digest s m ([.ref a0] : List Value).toArray below meth c H locs 0 0 (MQ below (xQl D cy (wX8 cy a0 a1 a2 a3 a4 a5 a6 st gr hi gh rc tx tl rk' tb tk at_ ltr on_ tw th nu) r A) ([.ref a0] : List Value).toArray s 0 0 A) (F0 m 95 ls []))) → W p l e rmX8_digest s m ([.ref a0] : List Value).toArray below meth c H locs 0 0 (MQ below (xQl D cy (wX8 cy a0 a1 a2 a3 a4 a5 a6 st gr hi gh rc tx tl rk' tb tk at_ ltr on_ tw th nu) r A) ([.ref a0] : List Value).toArray s 0 0 A) (F0 m 34 ls []) := by
    intro n
    induction n with
    | zero =>
      intro z1_111 z3_112 o_34 H locs ls hf
      rw [fX8_digest_L34] at hf
      cases hf
    | succ n ih =>
      intro z1_111 z3_112 o_34 H locs ls hf hP hD hS hl hr_34 kx_34
      rw [fX8_digest_L34] at hf
      refine lv_iload_n hx hb dX8_digest_34 rfl (lv_at hl 2 rfl) ?_
      refine lv_aload_n hx hb dX8_digest_35 rfl (lv_at hl 0 rfl) ?_
      refine x_get hx hb (C := RX8) (T := TX8) (N := 16) (ci := 8) hts iX8 hown hK hP 0 rfl rfl 0 (by decide) wd2 rfl (.ref a1) rfl dX8_digest_36 ?_
      refine lv_iconst (v := 5) hx hb dX8_digest_39 (by decide) ?_
      obtain ⟨hi_114, hf⟩ := ckI_el hf
      refine va_iald hx hb hK hP 1 1 rfl rfl hi_114 dX8_digest_40 ?_
      refine lv_icmp_ge (tgt := 95) hx hb dX8_digest_41 (by decide) (fun c_115 => ?_) (fun c_115 => ?_)
      · have hf := x_t c_115 hf
        exact kx_34 z1_111 (Option.some.inj hf).symm _ _ _ hP hD hS (lv_sub hl [0, 1] rfl)
      · have hf := x_f c_115 hf
        refine lv_ldc2 hx hb hown wd1 dX8_digest_44 ?_
        refine lv_lload_n hx hb dX8_digest_47 rfl (lv_at hl 1 rfl) ?_
        refine lv_lmul hx hb dX8_digest_48 ?_
        refine lv_aload_n hx hb dX8_digest_49 rfl (lv_at hl 0 rfl) ?_
        refine lv_iload_n hx hb dX8_digest_50 rfl (lv_at hl 2 rfl) ?_
        refine lv_iconst (v := 0) hx hb dX8_digest_51 (by decide) ?_
        obtain ⟨r_116, h_117, hf⟩ := bd1_el hf
        refine x_callVi (As := [.int z3_112, .int 0]) (rest := [.long (31 * z1_111)]) ⟨hx, hb, hml, hown, hts⟩ (mX8_part l D cy a0 a1 a2 a3 a4 a5 a6 st gr hi gh rc tx tl rk tb tk at_ ltr on_ tw th nu z3_112 0 r_116 h_117) (cwV 2 hts (gcV_X8_part hbg wm_9_9) rfl rfl rfl kdX8_part ⟨Nat.le_of_ble_eq_true rfl, Nat.le_of_ble_eq_true rfl⟩) (w1 := []) (w2 := []) (w' := wX8 cy a0 a1 a2 a3 a4 a5 a6 st gr hi gh rc tx tl rk tb tk at_ ltr on_ tw th nu) (List.append_nil _) (List.append_nil _) hP hK hD hN hS hA (q0 := 0) rfl rfl rfl rfl hl rfl (Nat.le_of_ble_eq_true rfl) dX8_digest_52 ⟨Nat.zero_le _, Nat.zero_le _⟩ (fun H locs hP hD hS => ?_)
        refine lv_i2l (v := r_116.toInt64) hx hb dX8_digest_55 rfl ?_
        refine lv_ladd hx hb dX8_digest_56 ?_
        obtain ⟨x1_118, ex1_118, hf⟩ := lt_el hf
        refine x_topl ex1_118 ?_
        refine lv_lstore_n (lv' := [(1, .long x1_118), (0, .ref a0), (3, .int z3_112)]) hx hb dX8_digest_57 rfl hl (by decide) rfl (fun ls hl => ?_)
        refine lv_iconst (v := 0) hx hb dX8_digest_58 (by decide) ?_
        refine lv_istore (lv' := [(4, .int 0), (1, .long x1_118), (0, .ref a0), (3, .int z3_112)]) hx hb dX8_digest_59 hl (by decide) rfl (fun ls hl => ?_)
        have hL_61 : ∀ (n : Nat) (z1_120 : Int64) (z4_121 : Int32) (o : Int64) (H : Heap) (locs : List Loc) (ls : Array Slot), fX8_digest_L61 st gr z3_112 n z1_120 z4_121 = some o → va_P D vwCl (wX8 cy a0 a1 a2 a3 a4 a5 a6 st gr hi gh rc tx tl rk tb tk at_ ltr on_ tw th nu) H → va_D A (wX8 cy a0 a1 a2 a3 a4 a5 a6 st gr hi gh rc tx tl rk tb tk at_ ltr on_ tw th nu) → va_S A s.heap H locs → lv_has ls 5 [(0, .ref a0), (1, .long z1_120), (3, .int z3_112), (4, .int z4_121)] → True → ((∀ (x1_122 : Int64) , o = x1_122 → ∀ (H : Heap) (locs : List Loc) (ls : Array Slot), va_P D vwCl (wX8 cy a0 a1 a2 a3 a4 a5 a6 st gr hi gh rc tx tl rk tb tk at_ ltr on_ tw th nu) H → va_D A (wX8 cy a0 a1 a2 a3 a4 a5 a6 st gr hi gh rc tx tl rk tb tk at_ ltr on_ tw th nu) → va_S A s.heap H locs → lv_has ls 5 [(0, .ref a0), (1, .long x1_122), (3, .int z3_112)] → W p l e rmX8_digest s m ([.ref a0] : List Value).toArray below meth c H locs 0 0 (MQ below (xQl D cy (wX8 cy a0 a1 a2 a3 a4 a5 a6 st gr hi gh rc tx tl rk' tb tk at_ ltr on_ tw th nu) r A) ([.ref a0] : List Value).toArray s 0 0 A) (F0 m 89 ls []))) → W p l e rmX8_digest s m ([.ref a0] : List Value).toArray below meth c H locs 0 0 (MQ below (xQl D cy (wX8 cy a0 a1 a2 a3 a4 a5 a6 st gr hi gh rc tx tl rk' tb tk at_ ltr on_ tw th nu) r A) ([.ref a0] : List Value).toArray s 0 0 A) (F0 m 61 ls []) := by
          intro n
          induction n with
          | zero =>
            intro z1_120 z4_121 o_61 H locs ls hf
            rw [fX8_digest_L61] at hf
            cases hf
          | succ n ih =>
            intro z1_120 z4_121 o_61 H locs ls hf hP hD hS hl hr_61 kx_61
            rw [fX8_digest_L61] at hf
            refine lv_iload hx hb dX8_digest_61 (lv_at hl 3 rfl) ?_
            refine lv_bipush (v := 7) hx hb dX8_digest_63 (by decide) ?_
            refine lv_icmp_gt (tgt := 89) hx hb dX8_digest_65 (by decide) (fun c_123 => ?_) (fun c_123 => ?_)
            · have hf := x_t c_123 hf
              exact kx_61 z1_120 (Option.some.inj hf).symm _ _ _ hP hD hS (lv_sub hl [0, 1, 2] rfl)
            · have hf := x_f c_123 hf
              refine lv_ldc2 hx hb hown wd1 dX8_digest_68 ?_
              refine lv_lload_n hx hb dX8_digest_71 rfl (lv_at hl 1 rfl) ?_
              refine lv_lmul hx hb dX8_digest_72 ?_
              refine lv_aload_n hx hb dX8_digest_73 rfl (lv_at hl 0 rfl) ?_
              refine lv_iload_n hx hb dX8_digest_74 rfl (lv_at hl 2 rfl) ?_
              refine lv_iload hx hb dX8_digest_75 (lv_at hl 3 rfl) ?_
              obtain ⟨r_124, h_125, hf⟩ := bd1_el hf
              refine x_callVi (As := [.int z3_112, .int z4_121]) (rest := [.long (31 * z1_120)]) ⟨hx, hb, hml, hown, hts⟩ (mX8_ofClient l D cy a0 a1 a2 a3 a4 a5 a6 st gr hi gh rc tx tl rk tb tk at_ ltr on_ tw th nu z3_112 z4_121 r_124 h_125) (cwV 2 hts (gcV_X8_ofClient hbg wm_29_1) rfl rfl rfl kdX8_ofClient ⟨Nat.le_of_ble_eq_true rfl, Nat.le_of_ble_eq_true rfl⟩) (w1 := []) (w2 := []) (w' := wX8 cy a0 a1 a2 a3 a4 a5 a6 st gr hi gh rc tx tl rk tb tk at_ ltr on_ tw th nu) (List.append_nil _) (List.append_nil _) hP hK hD hN hS hA (q0 := 0) rfl rfl rfl rfl hl rfl (Nat.le_of_ble_eq_true rfl) dX8_digest_77 ⟨Nat.zero_le _, Nat.zero_le _⟩ (fun H locs hP hD hS => ?_)
              refine lv_i2l (v := r_124.toInt64) hx hb dX8_digest_80 rfl ?_
              refine lv_ladd hx hb dX8_digest_81 ?_
              obtain ⟨x1_126, ex1_126, hf⟩ := lt_el hf
              refine x_topl ex1_126 ?_
              refine lv_lstore_n (lv' := [(1, .long x1_126), (0, .ref a0), (3, .int z3_112), (4, .int z4_121)]) hx hb dX8_digest_82 rfl hl (by decide) rfl (fun ls hl => ?_)
              refine lv_iinc (v := (z4_121 + 1)) (lv' := [(4, .int (z4_121 + 1)), (1, .long x1_126), (0, .ref a0), (3, .int z3_112)]) hx hb dX8_digest_83 hl (k := 3) rfl rfl (by decide) rfl (fun ls hl => ?_)
              refine lv_goto (tgt := 61) hx hb dX8_digest_86 (by decide) ?_
              exact ih x1_126 (z4_121 + 1) _ _ _ _ hf hP hD hS (lv_sub hl [2, 1, 3, 0] rfl) hr_61 kx_61
        obtain ⟨x1_119, h1_61, hf⟩ := bd1_el hf
        refine hL_61 2147483648 x1_118 0 _ _ _ _ h1_61 hP hD hS (lv_sub hl [2, 1, 3, 0] rfl) trivial (fun x1_1199 ho H locs ls hP hD hS hl => ?_)
        cases ho
        refine lv_iinc (v := (z3_112 + 1)) (lv' := [(3, .int (z3_112 + 1)), (0, .ref a0), (1, .long x1_119)]) hx hb dX8_digest_89 hl (k := 2) rfl rfl (by decide) rfl (fun ls hl => ?_)
        refine lv_goto (tgt := 34) hx hb dX8_digest_92 (by decide) ?_
        exact ih x1_119 (z3_112 + 1) _ _ _ _ hf hP hD hS (lv_sub hl [1, 2, 0] rfl) hr_34 kx_34
  obtain ⟨x1_15, h1_34, hf⟩ := bd1_el hf
  refine hL_34 2147483648 x1_4 0 _ _ _ _ h1_34 hP hD hS (lv_sub hl [2, 1, 0] rfl) trivial (fun x1_159 ho H locs ls hP hD hS hl => ?_)
  cases ho
  refine lv_iconst (v := 0) hx hb dX8_digest_95 (by decide) ?_
  refine lv_istore_n (lv' := [(3, .int 0), (0, .ref a0), (1, .long x1_15)]) hx hb dX8_digest_96 rfl hl (by decide) rfl (fun ls hl => ?_)
  have hL_97 : ∀ (n : Nat) (z1_104 : Int64) (z3_105 : Int32) (o : Int64) (H : Heap) (locs : List Loc) (ls : Array Slot), fX8_digest_L97 st n z1_104 z3_105 = some o → va_P D vwCl (wX8 cy a0 a1 a2 a3 a4 a5 a6 st gr hi gh rc tx tl rk tb tk at_ ltr on_ tw th nu) H → va_D A (wX8 cy a0 a1 a2 a3 a4 a5 a6 st gr hi gh rc tx tl rk tb tk at_ ltr on_ tw th nu) → va_S A s.heap H locs → lv_has ls 5 [(0, .ref a0), (1, .long z1_104), (3, .int z3_105)] → True → ((∀ (x1_106 : Int64) , o = x1_106 → ∀ (H : Heap) (locs : List Loc) (ls : Array Slot), va_P D vwCl (wX8 cy a0 a1 a2 a3 a4 a5 a6 st gr hi gh rc tx tl rk tb tk at_ ltr on_ tw th nu) H → va_D A (wX8 cy a0 a1 a2 a3 a4 a5 a6 st gr hi gh rc tx tl rk tb tk at_ ltr on_ tw th nu) → va_S A s.heap H locs → lv_has ls 5 [(0, .ref a0), (1, .long x1_106)] → W p l e rmX8_digest s m ([.ref a0] : List Value).toArray below meth c H locs 0 0 (MQ below (xQl D cy (wX8 cy a0 a1 a2 a3 a4 a5 a6 st gr hi gh rc tx tl rk' tb tk at_ ltr on_ tw th nu) r A) ([.ref a0] : List Value).toArray s 0 0 A) (F0 m 133 ls []))) → W p l e rmX8_digest s m ([.ref a0] : List Value).toArray below meth c H locs 0 0 (MQ below (xQl D cy (wX8 cy a0 a1 a2 a3 a4 a5 a6 st gr hi gh rc tx tl rk' tb tk at_ ltr on_ tw th nu) r A) ([.ref a0] : List Value).toArray s 0 0 A) (F0 m 97 ls []) := by
    intro n
    induction n with
    | zero =>
      intro z1_104 z3_105 o_97 H locs ls hf
      rw [fX8_digest_L97] at hf
      cases hf
    | succ n ih =>
      intro z1_104 z3_105 o_97 H locs ls hf hP hD hS hl hr_97 kx_97
      rw [fX8_digest_L97] at hf
      refine lv_iload_n hx hb dX8_digest_97 rfl (lv_at hl 2 rfl) ?_
      refine lv_iconst (v := 4) hx hb dX8_digest_98 (by decide) ?_
      refine lv_aload_n hx hb dX8_digest_99 rfl (lv_at hl 0 rfl) ?_
      refine x_get hx hb (C := RX8) (T := TX8) (N := 16) (ci := 8) hts iX8 hown hK hP 0 rfl rfl 0 (by decide) wd2 rfl (.ref a1) rfl dX8_digest_100 ?_
      refine lv_bipush (v := 6) hx hb dX8_digest_103 (by decide) ?_
      obtain ⟨hi_107, hf⟩ := ckI_el hf
      refine va_iald hx hb hK hP 1 1 rfl rfl hi_107 dX8_digest_105 ?_
      refine lv_imul hx hb dX8_digest_106 ?_
      refine lv_icmp_ge (tgt := 133) hx hb dX8_digest_107 (by decide) (fun c_108 => ?_) (fun c_108 => ?_)
      · have hf := x_t c_108 hf
        exact kx_97 z1_104 (Option.some.inj hf).symm _ _ _ hP hD hS (lv_sub hl [0, 1] rfl)
      · have hf := x_f c_108 hf
        refine lv_ldc2 hx hb hown wd1 dX8_digest_110 ?_
        refine lv_lload_n hx hb dX8_digest_113 rfl (lv_at hl 1 rfl) ?_
        refine lv_lmul hx hb dX8_digest_114 ?_
        refine lv_aload_n hx hb dX8_digest_115 rfl (lv_at hl 0 rfl) ?_
        refine x_get hx hb (C := RX8) (T := TX8) (N := 16) (ci := 8) hts iX8 hown hK hP 0 rfl rfl 0 (by decide) wd2 rfl (.ref a1) rfl dX8_digest_116 ?_
        refine lv_bipush (v := 48) hx hb dX8_digest_119 (by decide) ?_
        refine lv_iload_n hx hb dX8_digest_121 rfl (lv_at hl 2 rfl) ?_
        refine lv_iadd hx hb dX8_digest_122 ?_
        obtain ⟨hi_109, hf⟩ := ckI_el hf
        refine va_iald hx hb hK hP 1 1 rfl rfl hi_109 dX8_digest_123 ?_
        refine lv_i2l (v := (st (48 + z3_105).toNatClampNeg).toInt64) hx hb dX8_digest_124 rfl ?_
        refine lv_ladd hx hb dX8_digest_125 ?_
        obtain ⟨x1_110, ex1_110, hf⟩ := lt_el hf
        refine x_topl ex1_110 ?_
        refine lv_lstore_n (lv' := [(1, .long x1_110), (0, .ref a0), (3, .int z3_105)]) hx hb dX8_digest_126 rfl hl (by decide) rfl (fun ls hl => ?_)
        refine lv_iinc (v := (z3_105 + 1)) (lv' := [(3, .int (z3_105 + 1)), (1, .long x1_110), (0, .ref a0)]) hx hb dX8_digest_127 hl (k := 2) rfl rfl (by decide) rfl (fun ls hl => ?_)
        refine lv_goto (tgt := 97) hx hb dX8_digest_130 (by decide) ?_
        exact ih x1_110 (z3_105 + 1) _ _ _ _ hf hP hD hS (lv_sub hl [2, 1, 0] rfl) hr_97 kx_97
  obtain ⟨x1_20, h1_97, hf⟩ := bd1_el hf
  refine hL_97 2147483648 x1_15 0 _ _ _ _ h1_97 hP hD hS (lv_sub hl [1, 2, 0] rfl) trivial (fun x1_209 ho H locs ls hP hD hS hl => ?_)
  cases ho
  refine lv_iconst (v := 0) hx hb dX8_digest_133 (by decide) ?_
  refine lv_istore_n (lv' := [(3, .int 0), (0, .ref a0), (1, .long x1_20)]) hx hb dX8_digest_134 rfl hl (by decide) rfl (fun ls hl => ?_)
  have hL_135 : ∀ (n : Nat) (z1_97 : Int64) (z3_98 : Int32) (o : Int64) (H : Heap) (locs : List Loc) (ls : Array Slot), fX8_digest_L135 st n z1_97 z3_98 = some o → va_P D vwCl (wX8 cy a0 a1 a2 a3 a4 a5 a6 st gr hi gh rc tx tl rk tb tk at_ ltr on_ tw th nu) H → va_D A (wX8 cy a0 a1 a2 a3 a4 a5 a6 st gr hi gh rc tx tl rk tb tk at_ ltr on_ tw th nu) → va_S A s.heap H locs → lv_has ls 5 [(0, .ref a0), (1, .long z1_97), (3, .int z3_98)] → True → ((∀ (x1_99 : Int64) , o = x1_99 → ∀ (H : Heap) (locs : List Loc) (ls : Array Slot), va_P D vwCl (wX8 cy a0 a1 a2 a3 a4 a5 a6 st gr hi gh rc tx tl rk tb tk at_ ltr on_ tw th nu) H → va_D A (wX8 cy a0 a1 a2 a3 a4 a5 a6 st gr hi gh rc tx tl rk tb tk at_ ltr on_ tw th nu) → va_S A s.heap H locs → lv_has ls 5 [(0, .ref a0), (1, .long x1_99)] → W p l e rmX8_digest s m ([.ref a0] : List Value).toArray below meth c H locs 0 0 (MQ below (xQl D cy (wX8 cy a0 a1 a2 a3 a4 a5 a6 st gr hi gh rc tx tl rk' tb tk at_ ltr on_ tw th nu) r A) ([.ref a0] : List Value).toArray s 0 0 A) (F0 m 171 ls []))) → W p l e rmX8_digest s m ([.ref a0] : List Value).toArray below meth c H locs 0 0 (MQ below (xQl D cy (wX8 cy a0 a1 a2 a3 a4 a5 a6 st gr hi gh rc tx tl rk' tb tk at_ ltr on_ tw th nu) r A) ([.ref a0] : List Value).toArray s 0 0 A) (F0 m 135 ls []) := by
    intro n
    induction n with
    | zero =>
      intro z1_97 z3_98 o_135 H locs ls hf
      rw [fX8_digest_L135] at hf
      cases hf
    | succ n ih =>
      intro z1_97 z3_98 o_135 H locs ls hf hP hD hS hl hr_135 kx_135
      rw [fX8_digest_L135] at hf
      refine lv_iload_n hx hb dX8_digest_135 rfl (lv_at hl 2 rfl) ?_
      refine lv_iconst (v := 4) hx hb dX8_digest_136 (by decide) ?_
      refine lv_aload_n hx hb dX8_digest_137 rfl (lv_at hl 0 rfl) ?_
      refine x_get hx hb (C := RX8) (T := TX8) (N := 16) (ci := 8) hts iX8 hown hK hP 0 rfl rfl 0 (by decide) wd2 rfl (.ref a1) rfl dX8_digest_138 ?_
      refine lv_bipush (v := 7) hx hb dX8_digest_141 (by decide) ?_
      obtain ⟨hi_100, hf⟩ := ckI_el hf
      refine va_iald hx hb hK hP 1 1 rfl rfl hi_100 dX8_digest_143 ?_
      refine lv_imul hx hb dX8_digest_144 ?_
      refine lv_icmp_ge (tgt := 171) hx hb dX8_digest_145 (by decide) (fun c_101 => ?_) (fun c_101 => ?_)
      · have hf := x_t c_101 hf
        exact kx_135 z1_97 (Option.some.inj hf).symm _ _ _ hP hD hS (lv_sub hl [0, 1] rfl)
      · have hf := x_f c_101 hf
        refine lv_ldc2 hx hb hown wd1 dX8_digest_148 ?_
        refine lv_lload_n hx hb dX8_digest_151 rfl (lv_at hl 1 rfl) ?_
        refine lv_lmul hx hb dX8_digest_152 ?_
        refine lv_aload_n hx hb dX8_digest_153 rfl (lv_at hl 0 rfl) ?_
        refine x_get hx hb (C := RX8) (T := TX8) (N := 16) (ci := 8) hts iX8 hown hK hP 0 rfl rfl 0 (by decide) wd2 rfl (.ref a1) rfl dX8_digest_154 ?_
        refine lv_bipush (v := 108) hx hb dX8_digest_157 (by decide) ?_
        refine lv_iload_n hx hb dX8_digest_159 rfl (lv_at hl 2 rfl) ?_
        refine lv_iadd hx hb dX8_digest_160 ?_
        obtain ⟨hi_102, hf⟩ := ckI_el hf
        refine va_iald hx hb hK hP 1 1 rfl rfl hi_102 dX8_digest_161 ?_
        refine lv_i2l (v := (st (108 + z3_98).toNatClampNeg).toInt64) hx hb dX8_digest_162 rfl ?_
        refine lv_ladd hx hb dX8_digest_163 ?_
        obtain ⟨x1_103, ex1_103, hf⟩ := lt_el hf
        refine x_topl ex1_103 ?_
        refine lv_lstore_n (lv' := [(1, .long x1_103), (0, .ref a0), (3, .int z3_98)]) hx hb dX8_digest_164 rfl hl (by decide) rfl (fun ls hl => ?_)
        refine lv_iinc (v := (z3_98 + 1)) (lv' := [(3, .int (z3_98 + 1)), (1, .long x1_103), (0, .ref a0)]) hx hb dX8_digest_165 hl (k := 2) rfl rfl (by decide) rfl (fun ls hl => ?_)
        refine lv_goto (tgt := 135) hx hb dX8_digest_168 (by decide) ?_
        exact ih x1_103 (z3_98 + 1) _ _ _ _ hf hP hD hS (lv_sub hl [2, 1, 0] rfl) hr_135 kx_135
  obtain ⟨x1_25, h1_135, hf⟩ := bd1_el hf
  refine hL_135 2147483648 x1_20 0 _ _ _ _ h1_135 hP hD hS (lv_sub hl [1, 2, 0] rfl) trivial (fun x1_259 ho H locs ls hP hD hS hl => ?_)
  cases ho
  refine lv_ldc2 hx hb hown wd1 dX8_digest_171 ?_
  refine lv_lload_n hx hb dX8_digest_174 rfl (lv_at hl 1 rfl) ?_
  refine lv_lmul hx hb dX8_digest_175 ?_
  refine lv_aload_n hx hb dX8_digest_176 rfl (lv_at hl 0 rfl) ?_
  refine x_get hx hb (C := RX8) (T := TX8) (N := 16) (ci := 8) hts iX8 hown hK hP 0 rfl rfl 0 (by decide) wd2 rfl (.ref a1) rfl dX8_digest_177 ?_
  refine lv_bipush (v := 10) hx hb dX8_digest_180 (by decide) ?_
  obtain ⟨hi_26, hf⟩ := ckI_el hf
  refine va_iald hx hb hK hP 1 1 rfl rfl hi_26 dX8_digest_182 ?_
  refine lv_i2l (v := (st (10 : Int32).toNatClampNeg).toInt64) hx hb dX8_digest_183 rfl ?_
  refine lv_ladd hx hb dX8_digest_184 ?_
  obtain ⟨x1_27, ex1_27, hf⟩ := lt_el hf
  refine x_topl ex1_27 ?_
  refine lv_lstore_n (lv' := [(1, .long x1_27), (0, .ref a0)]) hx hb dX8_digest_185 rfl hl (by decide) rfl (fun ls hl => ?_)
  refine lv_iconst (v := 1) hx hb dX8_digest_186 (by decide) ?_
  refine lv_istore_n (lv' := [(3, .int 1), (1, .long x1_27), (0, .ref a0)]) hx hb dX8_digest_187 rfl hl (by decide) rfl (fun ls hl => ?_)
  have hL_188 : ∀ (n : Nat) (z1_81 : Int64) (z3_82 : Int32) (o : Int64) (H : Heap) (locs : List Loc) (ls : Array Slot), fX8_digest_L188 st n z1_81 z3_82 = some o → va_P D vwCl (wX8 cy a0 a1 a2 a3 a4 a5 a6 st gr hi gh rc tx tl rk tb tk at_ ltr on_ tw th nu) H → va_D A (wX8 cy a0 a1 a2 a3 a4 a5 a6 st gr hi gh rc tx tl rk tb tk at_ ltr on_ tw th nu) → va_S A s.heap H locs → lv_has ls 5 [(0, .ref a0), (1, .long z1_81), (3, .int z3_82)] → True → ((∀ (x1_83 : Int64) , o = x1_83 → ∀ (H : Heap) (locs : List Loc) (ls : Array Slot), va_P D vwCl (wX8 cy a0 a1 a2 a3 a4 a5 a6 st gr hi gh rc tx tl rk tb tk at_ ltr on_ tw th nu) H → va_D A (wX8 cy a0 a1 a2 a3 a4 a5 a6 st gr hi gh rc tx tl rk tb tk at_ ltr on_ tw th nu) → va_S A s.heap H locs → lv_has ls 5 [(0, .ref a0), (1, .long x1_83)] → W p l e rmX8_digest s m ([.ref a0] : List Value).toArray below meth c H locs 0 0 (MQ below (xQl D cy (wX8 cy a0 a1 a2 a3 a4 a5 a6 st gr hi gh rc tx tl rk' tb tk at_ ltr on_ tw th nu) r A) ([.ref a0] : List Value).toArray s 0 0 A) (F0 m 244 ls []))) → W p l e rmX8_digest s m ([.ref a0] : List Value).toArray below meth c H locs 0 0 (MQ below (xQl D cy (wX8 cy a0 a1 a2 a3 a4 a5 a6 st gr hi gh rc tx tl rk' tb tk at_ ltr on_ tw th nu) r A) ([.ref a0] : List Value).toArray s 0 0 A) (F0 m 188 ls []) := by
    intro n
    induction n with
    | zero =>
      intro z1_81 z3_82 o_188 H locs ls hf
      rw [fX8_digest_L188] at hf
      cases hf
    | succ n ih =>
      intro z1_81 z3_82 o_188 H locs ls hf hP hD hS hl hr_188 kx_188
      rw [fX8_digest_L188] at hf
      refine lv_iload_n hx hb dX8_digest_188 rfl (lv_at hl 2 rfl) ?_
      refine lv_aload_n hx hb dX8_digest_189 rfl (lv_at hl 0 rfl) ?_
      refine x_get hx hb (C := RX8) (T := TX8) (N := 16) (ci := 8) hts iX8 hown hK hP 0 rfl rfl 0 (by decide) wd2 rfl (.ref a1) rfl dX8_digest_190 ?_
      refine lv_bipush (v := 10) hx hb dX8_digest_193 (by decide) ?_
      obtain ⟨hi_84, hf⟩ := ckI_el hf
      refine va_iald hx hb hK hP 1 1 rfl rfl hi_84 dX8_digest_195 ?_
      refine lv_icmp_gt (tgt := 244) hx hb dX8_digest_196 (by decide) (fun c_85 => ?_) (fun c_85 => ?_)
      · have hf := x_t c_85 hf
        exact kx_188 z1_81 (Option.some.inj hf).symm _ _ _ hP hD hS (lv_sub hl [0, 1] rfl)
      · have hf := x_f c_85 hf
        refine lv_iconst (v := 0) hx hb dX8_digest_199 (by decide) ?_
        refine lv_istore (lv' := [(4, .int 0), (0, .ref a0), (1, .long z1_81), (3, .int z3_82)]) hx hb dX8_digest_200 hl (by decide) rfl (fun ls hl => ?_)
        have hL_202 : ∀ (n : Nat) (z1_87 : Int64) (z4_88 : Int32) (o : Int64) (H : Heap) (locs : List Loc) (ls : Array Slot), fX8_digest_L202 st z3_82 n z1_87 z4_88 = some o → va_P D vwCl (wX8 cy a0 a1 a2 a3 a4 a5 a6 st gr hi gh rc tx tl rk tb tk at_ ltr on_ tw th nu) H → va_D A (wX8 cy a0 a1 a2 a3 a4 a5 a6 st gr hi gh rc tx tl rk tb tk at_ ltr on_ tw th nu) → va_S A s.heap H locs → lv_has ls 5 [(0, .ref a0), (1, .long z1_87), (3, .int z3_82), (4, .int z4_88)] → True → ((∀ (x1_89 : Int64) , o = x1_89 → ∀ (H : Heap) (locs : List Loc) (ls : Array Slot), va_P D vwCl (wX8 cy a0 a1 a2 a3 a4 a5 a6 st gr hi gh rc tx tl rk tb tk at_ ltr on_ tw th nu) H → va_D A (wX8 cy a0 a1 a2 a3 a4 a5 a6 st gr hi gh rc tx tl rk tb tk at_ ltr on_ tw th nu) → va_S A s.heap H locs → lv_has ls 5 [(0, .ref a0), (1, .long x1_89), (3, .int z3_82)] → W p l e rmX8_digest s m ([.ref a0] : List Value).toArray below meth c H locs 0 0 (MQ below (xQl D cy (wX8 cy a0 a1 a2 a3 a4 a5 a6 st gr hi gh rc tx tl rk' tb tk at_ ltr on_ tw th nu) r A) ([.ref a0] : List Value).toArray s 0 0 A) (F0 m 238 ls []))) → W p l e rmX8_digest s m ([.ref a0] : List Value).toArray below meth c H locs 0 0 (MQ below (xQl D cy (wX8 cy a0 a1 a2 a3 a4 a5 a6 st gr hi gh rc tx tl rk' tb tk at_ ltr on_ tw th nu) r A) ([.ref a0] : List Value).toArray s 0 0 A) (F0 m 202 ls []) := by
          intro n
          induction n with
          | zero =>
            intro z1_87 z4_88 o_202 H locs ls hf
            rw [fX8_digest_L202] at hf
            cases hf
          | succ n ih =>
            intro z1_87 z4_88 o_202 H locs ls hf hP hD hS hl hr_202 kx_202
            rw [fX8_digest_L202] at hf
            refine lv_iload hx hb dX8_digest_202 (lv_at hl 3 rfl) ?_
            refine lv_bipush (v := 6) hx hb dX8_digest_204 (by decide) ?_
            refine lv_icmp_gt (tgt := 238) hx hb dX8_digest_206 (by decide) (fun c_90 => ?_) (fun c_90 => ?_)
            · have hf := x_t c_90 hf
              exact kx_202 z1_87 (Option.some.inj hf).symm _ _ _ hP hD hS (lv_sub hl [0, 1, 2] rfl)
            · have hf := x_f c_90 hf
              refine lv_aload_n hx hb dX8_digest_209 rfl (lv_at hl 0 rfl) ?_
              refine lv_iload_n hx hb dX8_digest_210 rfl (lv_at hl 2 rfl) ?_
              obtain ⟨r_91, h_92, hf⟩ := bd1_el hf
              refine x_callVi (As := [.int z3_82]) (rest := []) ⟨hx, hb, hml, hown, hts⟩ (mX8_isEntry l D cy a0 a1 a2 a3 a4 a5 a6 st gr hi gh rc tx tl rk tb tk at_ ltr on_ tw th nu z3_82 r_91 h_92) (cwV 1 hts (gcV_X8_isEntry hbg wm_25_10) rfl rfl rfl kdX8_isEntry ⟨Nat.le_of_ble_eq_true rfl, Nat.le_of_ble_eq_true rfl⟩) (w1 := []) (w2 := []) (w' := wX8 cy a0 a1 a2 a3 a4 a5 a6 st gr hi gh rc tx tl rk tb tk at_ ltr on_ tw th nu) (List.append_nil _) (List.append_nil _) hP hK hD hN hS hA (q0 := 0) rfl rfl rfl rfl hl rfl (Nat.le_of_ble_eq_true rfl) dX8_digest_211 ⟨Nat.zero_le _, Nat.zero_le _⟩ (fun H locs hP hD hS => ?_)
              refine lv_if_eq (tgt := 238) hx hb dX8_digest_214 (by decide) (fun c_93 => ?_) (fun c_93 => ?_)
              · have hf := x_t c_93 hf
                exact kx_202 z1_87 (Option.some.inj hf).symm _ _ _ hP hD hS (lv_sub hl [0, 1, 2] rfl)
              · have hf := x_f c_93 hf
                refine lv_ldc2 hx hb hown wd1 dX8_digest_217 ?_
                refine lv_lload_n hx hb dX8_digest_220 rfl (lv_at hl 1 rfl) ?_
                refine lv_lmul hx hb dX8_digest_221 ?_
                refine lv_aload_n hx hb dX8_digest_222 rfl (lv_at hl 0 rfl) ?_
                refine lv_iload_n hx hb dX8_digest_223 rfl (lv_at hl 2 rfl) ?_
                refine lv_iload hx hb dX8_digest_224 (lv_at hl 3 rfl) ?_
                obtain ⟨r_94, h_95, hf⟩ := bd1_el hf
                refine x_callVi (As := [.int z3_82, .int z4_88]) (rest := [.long (31 * z1_87)]) ⟨hx, hb, hml, hown, hts⟩ (mX8_entryPart l D cy a0 a1 a2 a3 a4 a5 a6 st gr hi gh rc tx tl rk tb tk at_ ltr on_ tw th nu z3_82 z4_88 r_94 h_95) (cwV 2 hts (gcV_X8_entryPart hbg wm_25_18) rfl rfl rfl kdX8_entryPart ⟨Nat.le_of_ble_eq_true rfl, Nat.le_of_ble_eq_true rfl⟩) (w1 := []) (w2 := []) (w' := wX8 cy a0 a1 a2 a3 a4 a5 a6 st gr hi gh rc tx tl rk tb tk at_ ltr on_ tw th nu) (List.append_nil _) (List.append_nil _) hP hK hD hN hS hA (q0 := 0) rfl rfl rfl rfl hl rfl (Nat.le_of_ble_eq_true rfl) dX8_digest_226 ⟨Nat.zero_le _, Nat.zero_le _⟩ (fun H locs hP hD hS => ?_)
                refine lv_i2l (v := r_94.toInt64) hx hb dX8_digest_229 rfl ?_
                refine lv_ladd hx hb dX8_digest_230 ?_
                obtain ⟨x1_96, ex1_96, hf⟩ := lt_el hf
                refine x_topl ex1_96 ?_
                refine lv_lstore_n (lv' := [(1, .long x1_96), (0, .ref a0), (3, .int z3_82), (4, .int z4_88)]) hx hb dX8_digest_231 rfl hl (by decide) rfl (fun ls hl => ?_)
                refine lv_iinc (v := (z4_88 + 1)) (lv' := [(4, .int (z4_88 + 1)), (1, .long x1_96), (0, .ref a0), (3, .int z3_82)]) hx hb dX8_digest_232 hl (k := 3) rfl rfl (by decide) rfl (fun ls hl => ?_)
                refine lv_goto (tgt := 202) hx hb dX8_digest_235 (by decide) ?_
                exact ih x1_96 (z4_88 + 1) _ _ _ _ hf hP hD hS (lv_sub hl [2, 1, 3, 0] rfl) hr_202 kx_202
        obtain ⟨x1_86, h1_202, hf⟩ := bd1_el hf
        refine hL_202 2147483648 z1_81 0 _ _ _ _ h1_202 hP hD hS (lv_sub hl [1, 2, 3, 0] rfl) trivial (fun x1_869 ho H locs ls hP hD hS hl => ?_)
        cases ho
        refine lv_iinc (v := (z3_82 + 1)) (lv' := [(3, .int (z3_82 + 1)), (0, .ref a0), (1, .long x1_86)]) hx hb dX8_digest_238 hl (k := 2) rfl rfl (by decide) rfl (fun ls hl => ?_)
        refine lv_goto (tgt := 188) hx hb dX8_digest_241 (by decide) ?_
        exact ih x1_86 (z3_82 + 1) _ _ _ _ hf hP hD hS (lv_sub hl [1, 2, 0] rfl) hr_188 kx_188
  obtain ⟨x1_38, h1_188, hf⟩ := bd1_el hf
  refine hL_188 2147483648 x1_27 1 _ _ _ _ h1_188 hP hD hS (lv_sub hl [2, 1, 0] rfl) trivial (fun x1_389 ho H locs ls hP hD hS hl => ?_)
  cases ho
  refine lv_iconst (v := 1) hx hb dX8_digest_244 (by decide) ?_
  refine lv_istore_n (lv' := [(3, .int 1), (0, .ref a0), (1, .long x1_38)]) hx hb dX8_digest_245 rfl hl (by decide) rfl (fun ls hl => ?_)
  have hL_246 : ∀ (n : Nat) (rk_63 : Nat → Int32) (z1_64 : Int64) (z3_65 : Int32) (o : (Nat → Int32) × Int64) (H : Heap) (locs : List Loc) (ls : Array Slot), fX8_digest_L246 st n rk_63 z1_64 z3_65 = some o → va_P D vwCl (wX8 cy a0 a1 a2 a3 a4 a5 a6 st gr hi gh rc tx tl rk_63 tb tk at_ ltr on_ tw th nu) H → va_D A (wX8 cy a0 a1 a2 a3 a4 a5 a6 st gr hi gh rc tx tl rk_63 tb tk at_ ltr on_ tw th nu) → va_S A s.heap H locs → lv_has ls 5 [(0, .ref a0), (1, .long z1_64), (3, .int z3_65)] → True → ((∀ (rk_66 : Nat → Int32) (x1_67 : Int64) , o = (rk_66, x1_67) → ∀ (H : Heap) (locs : List Loc) (ls : Array Slot), va_P D vwCl (wX8 cy a0 a1 a2 a3 a4 a5 a6 st gr hi gh rc tx tl rk_66 tb tk at_ ltr on_ tw th nu) H → va_D A (wX8 cy a0 a1 a2 a3 a4 a5 a6 st gr hi gh rc tx tl rk_66 tb tk at_ ltr on_ tw th nu) → va_S A s.heap H locs → lv_has ls 5 [(0, .ref a0), (1, .long x1_67)] → W p l e rmX8_digest s m ([.ref a0] : List Value).toArray below meth c H locs 0 0 (MQ below (xQl D cy (wX8 cy a0 a1 a2 a3 a4 a5 a6 st gr hi gh rc tx tl rk' tb tk at_ ltr on_ tw th nu) r A) ([.ref a0] : List Value).toArray s 0 0 A) (F0 m 302 ls []))) → W p l e rmX8_digest s m ([.ref a0] : List Value).toArray below meth c H locs 0 0 (MQ below (xQl D cy (wX8 cy a0 a1 a2 a3 a4 a5 a6 st gr hi gh rc tx tl rk' tb tk at_ ltr on_ tw th nu) r A) ([.ref a0] : List Value).toArray s 0 0 A) (F0 m 246 ls []) := by
    intro n
    induction n with
    | zero =>
      intro rk_63 z1_64 z3_65 o_246 H locs ls hf
      rw [fX8_digest_L246] at hf
      cases hf
    | succ n ih =>
      intro rk_63 z1_64 z3_65 o_246 H locs ls hf hP hD hS hl hr_246 kx_246
      rw [fX8_digest_L246] at hf
      refine lv_iload_n hx hb dX8_digest_246 rfl (lv_at hl 2 rfl) ?_
      refine lv_iconst (v := 3) hx hb dX8_digest_247 (by decide) ?_
      refine lv_icmp_gt (tgt := 302) hx hb dX8_digest_248 (by decide) (fun c_68 => ?_) (fun c_68 => ?_)
      · have hf := x_t c_68 hf
        exact kx_246 rk_63 z1_64 (Option.some.inj hf).symm _ _ _ hP hD hS (lv_sub hl [0, 1] rfl)
      · have hf := x_f c_68 hf
        refine lv_aload_n hx hb dX8_digest_251 rfl (lv_at hl 0 rfl) ?_
        refine lv_iload_n hx hb dX8_digest_252 rfl (lv_at hl 2 rfl) ?_
        obtain ⟨rk_69, h_70, hf⟩ := bd1_el hf
        refine x_callVv (As := [.int z3_65]) (rest := []) ⟨hx, hb, hml, hown, hts⟩ (mX8_findRanks l D cy a0 a1 a2 a3 a4 a5 a6 st gr hi gh rc tx tl rk_63 tb tk at_ ltr on_ tw th nu z3_65 rk_69 h_70) (cwV 1 hts (gcV_X8_findRanks hbg wm_28_2) rfl rfl rfl kdX8_findRanks ⟨Nat.le_of_ble_eq_true rfl, Nat.le_of_ble_eq_true rfl⟩) (w1 := []) (w2 := []) (w' := wX8 cy a0 a1 a2 a3 a4 a5 a6 st gr hi gh rc tx tl rk_69 tb tk at_ ltr on_ tw th nu) (List.append_nil _) (List.append_nil _) hP hK hD hN hS hA (q0 := 0) rfl rfl rfl rfl hl rfl (Nat.le_of_ble_eq_true rfl) dX8_digest_253 ⟨Nat.zero_le _, Nat.zero_le _⟩ (fun H locs hP hD hS => ?_)
        refine lv_iconst (v := 0) hx hb dX8_digest_256 (by decide) ?_
        refine lv_istore (lv' := [(4, .int 0), (0, .ref a0), (1, .long z1_64), (3, .int z3_65)]) hx hb dX8_digest_257 hl (by decide) rfl (fun ls hl => ?_)
        have hL_259 : ∀ (n : Nat) (z1_72 : Int64) (z4_73 : Int32) (o : Int64) (H : Heap) (locs : List Loc) (ls : Array Slot), fX8_digest_L259 st rk_69 z3_65 n z1_72 z4_73 = some o → va_P D vwCl (wX8 cy a0 a1 a2 a3 a4 a5 a6 st gr hi gh rc tx tl rk_69 tb tk at_ ltr on_ tw th nu) H → va_D A (wX8 cy a0 a1 a2 a3 a4 a5 a6 st gr hi gh rc tx tl rk_69 tb tk at_ ltr on_ tw th nu) → va_S A s.heap H locs → lv_has ls 5 [(0, .ref a0), (1, .long z1_72), (3, .int z3_65), (4, .int z4_73)] → True → ((∀ (x1_74 : Int64) , o = x1_74 → ∀ (H : Heap) (locs : List Loc) (ls : Array Slot), va_P D vwCl (wX8 cy a0 a1 a2 a3 a4 a5 a6 st gr hi gh rc tx tl rk_69 tb tk at_ ltr on_ tw th nu) H → va_D A (wX8 cy a0 a1 a2 a3 a4 a5 a6 st gr hi gh rc tx tl rk_69 tb tk at_ ltr on_ tw th nu) → va_S A s.heap H locs → lv_has ls 5 [(0, .ref a0), (1, .long x1_74), (3, .int z3_65)] → W p l e rmX8_digest s m ([.ref a0] : List Value).toArray below meth c H locs 0 0 (MQ below (xQl D cy (wX8 cy a0 a1 a2 a3 a4 a5 a6 st gr hi gh rc tx tl rk' tb tk at_ ltr on_ tw th nu) r A) ([.ref a0] : List Value).toArray s 0 0 A) (F0 m 296 ls []))) → W p l e rmX8_digest s m ([.ref a0] : List Value).toArray below meth c H locs 0 0 (MQ below (xQl D cy (wX8 cy a0 a1 a2 a3 a4 a5 a6 st gr hi gh rc tx tl rk' tb tk at_ ltr on_ tw th nu) r A) ([.ref a0] : List Value).toArray s 0 0 A) (F0 m 259 ls []) := by
          intro n
          induction n with
          | zero =>
            intro z1_72 z4_73 o_259 H locs ls hf
            rw [fX8_digest_L259] at hf
            cases hf
          | succ n ih =>
            intro z1_72 z4_73 o_259 H locs ls hf hP hD hS hl hr_259 kx_259
            rw [fX8_digest_L259] at hf
            refine lv_iload hx hb dX8_digest_259 (lv_at hl 3 rfl) ?_
            refine lv_aload_n hx hb dX8_digest_261 rfl (lv_at hl 0 rfl) ?_
            refine x_get hx hb (C := RX8) (T := TX8) (N := 16) (ci := 8) hts iX8 hown hK hP 0 rfl rfl 0 (by decide) wd2 rfl (.ref a1) rfl dX8_digest_262 ?_
            refine lv_iconst (v := 5) hx hb dX8_digest_265 (by decide) ?_
            obtain ⟨hi_75, hf⟩ := ckI_el hf
            refine va_iald hx hb hK hP 1 1 rfl rfl hi_75 dX8_digest_266 ?_
            refine lv_icmp_ge (tgt := 296) hx hb dX8_digest_267 (by decide) (fun c_76 => ?_) (fun c_76 => ?_)
            · have hf := x_t c_76 hf
              exact kx_259 z1_72 (Option.some.inj hf).symm _ _ _ hP hD hS (lv_sub hl [0, 1, 2] rfl)
            · have hf := x_f c_76 hf
              refine lv_ldc2 hx hb hown wd1 dX8_digest_270 ?_
              refine lv_lload_n hx hb dX8_digest_273 rfl (lv_at hl 1 rfl) ?_
              refine lv_lmul hx hb dX8_digest_274 ?_
              refine lv_aload_n hx hb dX8_digest_275 rfl (lv_at hl 0 rfl) ?_
              refine lv_aload_n hx hb dX8_digest_276 rfl (lv_at hl 0 rfl) ?_
              refine x_get hx hb (C := RX8) (T := TX8) (N := 16) (ci := 8) hts iX8 hown hK hP 0 rfl rfl 7 (by decide) wd3 rfl (.ref a6) rfl dX8_digest_277 ?_
              refine lv_iload hx hb dX8_digest_280 (lv_at hl 3 rfl) ?_
              obtain ⟨hi_77, hf⟩ := ckI_el hf
              refine va_iald hx hb hK hP 6 1 rfl rfl hi_77 dX8_digest_282 ?_
              refine lv_iconst (v := 0) hx hb dX8_digest_283 (by decide) ?_
              obtain ⟨r_78, h_79, hf⟩ := bd1_el hf
              refine x_callVi (As := [.int (rk_69 z4_73.toNatClampNeg), .int 0]) (rest := [.long (31 * z1_72)]) ⟨hx, hb, hml, hown, hts⟩ (mX8_part l D cy a0 a1 a2 a3 a4 a5 a6 st gr hi gh rc tx tl rk_69 tb tk at_ ltr on_ tw th nu (rk_69 z4_73.toNatClampNeg) 0 r_78 h_79) (cwV 2 hts (gcV_X8_part hbg wm_9_9) rfl rfl rfl kdX8_part ⟨Nat.le_of_ble_eq_true rfl, Nat.le_of_ble_eq_true rfl⟩) (w1 := []) (w2 := []) (w' := wX8 cy a0 a1 a2 a3 a4 a5 a6 st gr hi gh rc tx tl rk_69 tb tk at_ ltr on_ tw th nu) (List.append_nil _) (List.append_nil _) hP hK hD hN hS hA (q0 := 0) rfl rfl rfl rfl hl rfl (Nat.le_of_ble_eq_true rfl) dX8_digest_284 ⟨Nat.zero_le _, Nat.zero_le _⟩ (fun H locs hP hD hS => ?_)
              refine lv_i2l (v := r_78.toInt64) hx hb dX8_digest_287 rfl ?_
              refine lv_ladd hx hb dX8_digest_288 ?_
              obtain ⟨x1_80, ex1_80, hf⟩ := lt_el hf
              refine x_topl ex1_80 ?_
              refine lv_lstore_n (lv' := [(1, .long x1_80), (0, .ref a0), (3, .int z3_65), (4, .int z4_73)]) hx hb dX8_digest_289 rfl hl (by decide) rfl (fun ls hl => ?_)
              refine lv_iinc (v := (z4_73 + 1)) (lv' := [(4, .int (z4_73 + 1)), (1, .long x1_80), (0, .ref a0), (3, .int z3_65)]) hx hb dX8_digest_290 hl (k := 3) rfl rfl (by decide) rfl (fun ls hl => ?_)
              refine lv_goto (tgt := 259) hx hb dX8_digest_293 (by decide) ?_
              exact ih x1_80 (z4_73 + 1) _ _ _ _ hf hP hD hS (lv_sub hl [2, 1, 3, 0] rfl) hr_259 kx_259
        obtain ⟨x1_71, h1_259, hf⟩ := bd1_el hf
        refine hL_259 2147483648 z1_64 0 _ _ _ _ h1_259 hP hD hS (lv_sub hl [1, 2, 3, 0] rfl) trivial (fun x1_719 ho H locs ls hP hD hS hl => ?_)
        cases ho
        refine lv_iinc (v := (z3_65 + 1)) (lv' := [(3, .int (z3_65 + 1)), (0, .ref a0), (1, .long x1_71)]) hx hb dX8_digest_296 hl (k := 2) rfl rfl (by decide) rfl (fun ls hl => ?_)
        refine lv_goto (tgt := 246) hx hb dX8_digest_299 (by decide) ?_
        exact ih rk_69 x1_71 (z3_65 + 1) _ _ _ _ hf hP hD hS (lv_sub hl [1, 2, 0] rfl) hr_246 kx_246
  obtain ⟨rk_49, x1_50, h1_246, hf⟩ := bd2_el hf
  refine hL_246 2147483648 rk x1_38 1 _ _ _ _ h1_246 hP hD hS (lv_sub hl [1, 2, 0] rfl) trivial (fun rk_499 x1_509 ho H locs ls hP hD hS hl => ?_)
  cases ho
  refine lv_iconst (v := 0) hx hb dX8_digest_302 (by decide) ?_
  refine lv_istore_n (lv' := [(3, .int 0), (0, .ref a0), (1, .long x1_50)]) hx hb dX8_digest_303 rfl hl (by decide) rfl (fun ls hl => ?_)
  have hL_304 : ∀ (n : Nat) (z1_56 : Int64) (z3_57 : Int32) (o : Int64) (H : Heap) (locs : List Loc) (ls : Array Slot), fX8_digest_L304 st gr n z1_56 z3_57 = some o → va_P D vwCl (wX8 cy a0 a1 a2 a3 a4 a5 a6 st gr hi gh rc tx tl rk_49 tb tk at_ ltr on_ tw th nu) H → va_D A (wX8 cy a0 a1 a2 a3 a4 a5 a6 st gr hi gh rc tx tl rk_49 tb tk at_ ltr on_ tw th nu) → va_S A s.heap H locs → lv_has ls 5 [(0, .ref a0), (1, .long z1_56), (3, .int z3_57)] → True → ((∀ (x1_58 : Int64) , o = x1_58 → ∀ (H : Heap) (locs : List Loc) (ls : Array Slot), va_P D vwCl (wX8 cy a0 a1 a2 a3 a4 a5 a6 st gr hi gh rc tx tl rk_49 tb tk at_ ltr on_ tw th nu) H → va_D A (wX8 cy a0 a1 a2 a3 a4 a5 a6 st gr hi gh rc tx tl rk_49 tb tk at_ ltr on_ tw th nu) → va_S A s.heap H locs → lv_has ls 5 [(1, .long x1_58)] → W p l e rmX8_digest s m ([.ref a0] : List Value).toArray below meth c H locs 0 0 (MQ below (xQl D cy (wX8 cy a0 a1 a2 a3 a4 a5 a6 st gr hi gh rc tx tl rk' tb tk at_ ltr on_ tw th nu) r A) ([.ref a0] : List Value).toArray s 0 0 A) (F0 m 327 ls []))) → W p l e rmX8_digest s m ([.ref a0] : List Value).toArray below meth c H locs 0 0 (MQ below (xQl D cy (wX8 cy a0 a1 a2 a3 a4 a5 a6 st gr hi gh rc tx tl rk' tb tk at_ ltr on_ tw th nu) r A) ([.ref a0] : List Value).toArray s 0 0 A) (F0 m 304 ls []) := by
    intro n
    induction n with
    | zero =>
      intro z1_56 z3_57 o_304 H locs ls hf
      rw [fX8_digest_L304] at hf
      cases hf
    | succ n ih =>
      intro z1_56 z3_57 o_304 H locs ls hf hP hD hS hl hr_304 kx_304
      rw [fX8_digest_L304] at hf
      refine lv_iload_n hx hb dX8_digest_304 rfl (lv_at hl 2 rfl) ?_
      refine lv_iconst (v := 5) hx hb dX8_digest_305 (by decide) ?_
      refine lv_icmp_gt (tgt := 327) hx hb dX8_digest_306 (by decide) (fun c_59 => ?_) (fun c_59 => ?_)
      · have hf := x_t c_59 hf
        exact kx_304 z1_56 (Option.some.inj hf).symm _ _ _ hP hD hS (lv_sub hl [1] rfl)
      · have hf := x_f c_59 hf
        refine lv_ldc2 hx hb hown wd1 dX8_digest_309 ?_
        refine lv_lload_n hx hb dX8_digest_312 rfl (lv_at hl 1 rfl) ?_
        refine lv_lmul hx hb dX8_digest_313 ?_
        refine lv_aload_n hx hb dX8_digest_314 rfl (lv_at hl 0 rfl) ?_
        refine lv_iload_n hx hb dX8_digest_315 rfl (lv_at hl 2 rfl) ?_
        obtain ⟨r_60, h_61, hf⟩ := bd1_el hf
        refine x_callVl (As := [.int z3_57]) (rest := [.long (31 * z1_56)]) ⟨hx, hb, hml, hown, hts⟩ (mX8_sumOf l D cy a0 a1 a2 a3 a4 a5 a6 st gr hi gh rc tx tl rk_49 tb tk at_ ltr on_ tw th nu z3_57 r_60 h_61) (cwV 1 hts (gcV_X8_sumOf hbg wm_32_8) rfl rfl rfl kdX8_sumOf ⟨Nat.le_of_ble_eq_true rfl, Nat.le_of_ble_eq_true rfl⟩) (w1 := []) (w2 := []) (w' := wX8 cy a0 a1 a2 a3 a4 a5 a6 st gr hi gh rc tx tl rk_49 tb tk at_ ltr on_ tw th nu) (List.append_nil _) (List.append_nil _) hP hK hD hN hS hA (q0 := 0) rfl rfl rfl rfl hl rfl (Nat.le_of_ble_eq_true rfl) dX8_digest_316 ⟨Nat.zero_le _, Nat.zero_le _⟩ (fun H locs hP hD hS => ?_)
        refine lv_ladd hx hb dX8_digest_319 ?_
        obtain ⟨x1_62, ex1_62, hf⟩ := lt_el hf
        refine x_topl ex1_62 ?_
        refine lv_lstore_n (lv' := [(1, .long x1_62), (0, .ref a0), (3, .int z3_57)]) hx hb dX8_digest_320 rfl hl (by decide) rfl (fun ls hl => ?_)
        refine lv_iinc (v := (z3_57 + 1)) (lv' := [(3, .int (z3_57 + 1)), (1, .long x1_62), (0, .ref a0)]) hx hb dX8_digest_321 hl (k := 2) rfl rfl (by decide) rfl (fun ls hl => ?_)
        refine lv_goto (tgt := 304) hx hb dX8_digest_324 (by decide) ?_
        exact ih x1_62 (z3_57 + 1) _ _ _ _ hf hP hD hS (lv_sub hl [2, 1, 0] rfl) hr_304 kx_304
  obtain ⟨x1_55, h1_304, hf⟩ := bd1_el hf
  refine hL_304 2147483648 x1_50 0 _ _ _ _ h1_304 hP hD hS (lv_sub hl [1, 2, 0] rfl) trivial (fun x1_559 ho H locs ls hP hD hS hl => ?_)
  cases ho
  refine lv_lload_n hx hb dX8_digest_327 rfl (lv_at hl 0 rfl) ?_
  have hf := Option.some.inj hf
  cases hf
  exact x_lret hx hb hr hlocks hK hP hD hS dX8_digest_328
