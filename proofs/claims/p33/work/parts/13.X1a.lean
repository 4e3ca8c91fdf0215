theorem kdX1_slotAt : yX1_slotAt.cls = RX1 ∧ yX1_slotAt.cls ≠ "java/lang/invoke/MethodHandle" ∧ yX1_slotAt.cls ≠ "java/lang/invoke/VarHandle" ∧ (parseMethodDescriptor yX1_slotAt.desc).map (fun d => d.parameters.length) = some 1 := by decide +kernel
def rmX1_slotAt : Room := { frames := 0, cells := 0, slots := 0, locals := 0 }
set_option maxHeartbeats 4000000 in
set_option maxRecDepth 100000 in
theorem mX1_slotAt (l : Launch) (D : va_G) (cy : Nat → ClassId) (hd : Nat → Nat) (sv : Int32) (nx : Int32) (SL : Nat → XS) (p1 : Int32) (r : Option Nat) (hf : fX1_slotAt hd p1 = some r) : xMq l D cy yX1_slotAt aX1_slotAt rmX1_slotAt ([.ref (hd 0), .int p1] : List Value) (wX1 cy hd sv nx SL) (wX1 cy hd sv nx SL) r := by
  intro hz
  refine x_start (Qc := xQq D cy _ r) (cc := cX1_slotAt) (maxL := 2) (ret := (some (.object "ClientMoneyBook$State"))) (by decide) rfl (Nat.le_of_ble_eq_true rfl) (lv := [(0, .ref (hd 0)), (1, .int p1)]) rfl ?_
  intro p e s m below meth c ls A hx hb hr hml hown hts hlocks hK hP hD hS hA hN hl
  have hown : s.vm.findClass RX1 = some m.cls := hown
  have hbg : ∀ w ∈ wsL_law, w ∈ aX1_slotAt := fun w h => List.mem_cons_of_mem _ h
  have wd0 : (Cond.fieldLink RX1 20 "ClientMoneyBook$History" "slots" "[LClientMoneyBook$State;").before ([.ref (hd 0), .int p1] : List Value).toArray s = true := hts _ (List.mem_cons_of_mem _ wm_3_19)
  have iX1 : ∀ w ∈ u_ws RX1 TX1 3, w ∈ aX1_slotAt := fun w h => List.mem_cons_of_mem _ (inlX1 w h)
  unfold fX1_slotAt at hf
  refine lv_iload_n hx hb dX1_slotAt_0 rfl (lv_at hl 1 rfl) ?_
  refine lv_if_lt (tgt := 22) hx hb dX1_slotAt_1 (by decide) (fun c_1 => ?_) (fun c_1 => ?_)
  · have hf := x_t c_1 hf
    refine lv_null hx hb dX1_slotAt_22 ?_
    have hf := Option.some.inj hf
    cases hf
    exact x_qret hx hb hr hlocks hK hP hD hS rfl dX1_slotAt_23
  · have hf := x_f c_1 hf
    refine lv_iload_n hx hb dX1_slotAt_4 rfl (lv_at hl 1 rfl) ?_
    refine lv_aload_n hx hb dX1_slotAt_5 rfl (lv_at hl 0 rfl) ?_
    refine x_get hx hb (C := RX1) (T := TX1) (N := 3) (ci := 1) hts iX1 hown hK hP 0 rfl rfl 2 (by decide) wd0 rfl (.ref (hd 1)) rfl dX1_slotAt_6 ?_
    refine va_alen (v := 7) hx hb hK hP 1 3 rfl rfl rfl dX1_slotAt_9 ?_
    refine lv_icmp_ge (tgt := 22) hx hb dX1_slotAt_10 (by decide) (fun c_2 => ?_) (fun c_2 => ?_)
    · have hf := x_t c_2 hf
      refine lv_null hx hb dX1_slotAt_22 ?_
      have hf := Option.some.inj hf
      cases hf
      exact x_qret hx hb hr hlocks hK hP hD hS rfl dX1_slotAt_23
    · have hf := x_f c_2 hf
      refine lv_aload_n hx hb dX1_slotAt_13 rfl (lv_at hl 0 rfl) ?_
      refine x_get hx hb (C := RX1) (T := TX1) (N := 3) (ci := 1) hts iX1 hown hK hP 0 rfl rfl 2 (by decide) wd0 rfl (.ref (hd 1)) rfl dX1_slotAt_14 ?_
      refine lv_iload_n hx hb dX1_slotAt_17 rfl (lv_at hl 1 rfl) ?_
      obtain ⟨hi_3, hf⟩ := ckI_el hf
      refine va_aldq hx hb hK hP 1 3 rfl rfl hi_3 dX1_slotAt_18 ?_
      refine lv_goto (tgt := 23) hx hb dX1_slotAt_19 (by decide) ?_
      have hf := Option.some.inj hf
      cases hf
      exact x_qret hx hb hr hlocks hK hP hD hS rfl dX1_slotAt_23
theorem kdX1_keep : yX1_keep.cls = RX1 ∧ yX1_keep.cls ≠ "java/lang/invoke/MethodHandle" ∧ yX1_keep.cls ≠ "java/lang/invoke/VarHandle" ∧ (parseMethodDescriptor yX1_keep.desc).map (fun d => d.parameters.length) = some 0 := by decide +kernel
def rmX1_keep : Room := { frames := 1, cells := 0, slots := 0, locals := 23 }
set_option maxHeartbeats 4000000 in
set_option maxRecDepth 100000 in
theorem mX1_keep (l : Launch) (D : va_G) (cy : Nat → ClassId) (hd : Nat → Nat) (sv : Int32) (nx : Int32) (SL : Nat → XS)  (sv' : Int32) (nx' : Int32) (hf : fX1_keep sv nx = some (sv', nx')) : xMv l D cy yX1_keep aX1_keep rmX1_keep ([.ref (hd 0)] : List Value) (wX1 cy hd sv nx SL) (wX1 cy hd sv' nx' SL) := by
  intro hz
  refine x_start (Qc := xQv D cy _) (cc := cX1_keep) (maxL := 1) (ret := none) (by decide) rfl (Nat.le_of_ble_eq_true rfl) (lv := [(0, .ref (hd 0))]) rfl ?_
  intro p e s m below meth c ls A hx hb hr hml hown hts hlocks hK hP hD hS hA hN hl
  have hown : s.vm.findClass RX1 = some m.cls := hown
  have hbg : ∀ w ∈ wsL_law, w ∈ aX1_keep := fun w h => List.mem_cons_of_mem _ h
  have wd0 : (Cond.fieldLink RX1 15 "ClientMoneyBook$History" "next" "I").before ([.ref (hd 0)] : List Value).toArray s = true := hts _ (List.mem_cons_of_mem _ wm_3_17)
  have wd1 : (Cond.fieldLink RX1 9 "ClientMoneyBook$History" "saved" "I").before ([.ref (hd 0)] : List Value).toArray s = true := hts _ (List.mem_cons_of_mem _ wm_3_16)
  have wd2 : (Cond.methodLink RX1 33 Lib.Math.min.name).before ([.ref (hd 0)] : List Value).toArray s = true := hts _ (List.mem_cons_of_mem _ wm_7_18)
  have wd3 : (Cond.static Lib.Math.min.name).before ([.ref (hd 0)] : List Value).toArray s = true := hts _ (List.mem_cons_of_mem _ wm_7_19)
  have wd4 : (Cond.initialized "java/lang/Math").before ([.ref (hd 0)] : List Value).toArray s = true := hts _ (List.mem_cons_of_mem _ wm_7_20)
  have wd5 : (Cond.code Lib.Math.min.name Lib.Math.min.code 2 (some .int)).before ([.ref (hd 0)] : List Value).toArray s = true := hts _ (List.mem_cons_of_mem _ wm_7_21)
  have iX1 : ∀ w ∈ u_ws RX1 TX1 3, w ∈ aX1_keep := fun w h => List.mem_cons_of_mem _ (inlX1 w h)
  unfold fX1_keep at hf
  refine lv_aload_n hx hb dX1_keep_0 rfl (lv_at hl 0 rfl) ?_
  refine lv_aload_n hx hb dX1_keep_1 rfl (lv_at hl 0 rfl) ?_
  refine x_get hx hb (C := RX1) (T := TX1) (N := 3) (ci := 1) hts iX1 hown hK hP 0 rfl rfl 1 (by decide) wd0 rfl (.int nx) rfl dX1_keep_2 ?_
  refine lv_bipush (v := 6) hx hb dX1_keep_5 (by decide) ?_
  refine lv_icmp_ge (tgt := 19) hx hb dX1_keep_7 (by decide) (fun c_1 => ?_) (fun c_1 => ?_)
  · have hf := x_t c_1 hf
    refine lv_iconst (v := 0) hx hb dX1_keep_19 (by decide) ?_
    refine x_put hx hb (C := RX1) (T := TX1) (N := 3) (ci := 1) hts iX1 tyX1 tyX1_ok nmX1 hown hK hP hD hS 0 rfl rfl 1 (by decide) wd0 rfl rfl (ty := .int) rfl rfl rfl (Nat.le_of_ble_eq_true rfl) (w' := wX1 cy hd sv 0 SL) rfl dX1_keep_20 (fun H locs hP hD hS => ?_)
    refine lv_aload_n hx hb dX1_keep_23 rfl (lv_at hl 0 rfl) ?_
    refine lv_aload_n hx hb dX1_keep_24 rfl (lv_at hl 0 rfl) ?_
    refine x_get hx hb (C := RX1) (T := TX1) (N := 3) (ci := 1) hts iX1 hown hK hP 0 rfl rfl 0 (by decide) wd1 rfl (.int sv) rfl dX1_keep_25 ?_
    refine lv_iconst (v := 1) hx hb dX1_keep_28 (by decide) ?_
    refine lv_iadd hx hb dX1_keep_29 ?_
    refine lv_bipush (v := 6) hx hb dX1_keep_30 (by decide) ?_
    obtain ⟨mn_2, emn_2, hf⟩ := lt_el hf
    refine va_mmin hx hb (hml.trans hl.1.symm) hown wd2 wd3 wd4 wd5 (Nat.le_of_ble_eq_true rfl) (Nat.le_of_ble_eq_true rfl) (Nat.zero_le _) (Nat.zero_le _) dX1_keep_32 ?_
    refine x_topi emn_2 ?_
    refine x_put hx hb (C := RX1) (T := TX1) (N := 3) (ci := 1) hts iX1 tyX1 tyX1_ok nmX1 hown hK hP hD hS 0 rfl rfl 0 (by decide) wd1 rfl rfl (ty := .int) rfl rfl rfl (Nat.le_of_ble_eq_true rfl) (w' := wX1 cy hd mn_2 0 SL) rfl dX1_keep_35 (fun H locs hP hD hS => ?_)
    have hf := Option.some.inj hf
    cases hf
    exact x_vret hx hb hr hlocks hK hP hD hS dX1_keep_38
  · have hf := x_f c_1 hf
    refine lv_aload_n hx hb dX1_keep_10 rfl (lv_at hl 0 rfl) ?_
    refine x_get hx hb (C := RX1) (T := TX1) (N := 3) (ci := 1) hts iX1 hown hK hP 0 rfl rfl 1 (by decide) wd0 rfl (.int nx) rfl dX1_keep_11 ?_
    refine lv_iconst (v := 1) hx hb dX1_keep_14 (by decide) ?_
    refine lv_iadd hx hb dX1_keep_15 ?_
    refine lv_goto (tgt := 20) hx hb dX1_keep_16 (by decide) ?_
    obtain ⟨nx_3, enx_3, hf⟩ := lt_el hf
    refine x_topi enx_3 ?_
    refine x_put hx hb (C := RX1) (T := TX1) (N := 3) (ci := 1) hts iX1 tyX1 tyX1_ok nmX1 hown hK hP hD hS 0 rfl rfl 1 (by decide) wd0 rfl rfl (ty := .int) rfl rfl rfl (Nat.le_of_ble_eq_true rfl) (w' := wX1 cy hd sv nx_3 SL) rfl dX1_keep_20 (fun H locs hP hD hS => ?_)
    refine lv_aload_n hx hb dX1_keep_23 rfl (lv_at hl 0 rfl) ?_
    refine lv_aload_n hx hb dX1_keep_24 rfl (lv_at hl 0 rfl) ?_
    refine x_get hx hb (C := RX1) (T := TX1) (N := 3) (ci := 1) hts iX1 hown hK hP 0 rfl rfl 0 (by decide) wd1 rfl (.int sv) rfl dX1_keep_25 ?_
    refine lv_iconst (v := 1) hx hb dX1_keep_28 (by decide) ?_
    refine lv_iadd hx hb dX1_keep_29 ?_
    refine lv_bipush (v := 6) hx hb dX1_keep_30 (by decide) ?_
    obtain ⟨mn_4, emn_4, hf⟩ := lt_el hf
    refine va_mmin hx hb (hml.trans hl.1.symm) hown wd2 wd3 wd4 wd5 (Nat.le_of_ble_eq_true rfl) (Nat.le_of_ble_eq_true rfl) (Nat.zero_le _) (Nat.zero_le _) dX1_keep_32 ?_
    refine x_topi emn_4 ?_
    refine x_put hx hb (C := RX1) (T := TX1) (N := 3) (ci := 1) hts iX1 tyX1 tyX1_ok nmX1 hown hK hP hD hS 0 rfl rfl 0 (by decide) wd1 rfl rfl (ty := .int) rfl rfl rfl (Nat.le_of_ble_eq_true rfl) (w' := wX1 cy hd mn_4 nx_3 SL) rfl dX1_keep_35 (fun H locs hP hD hS => ?_)
    have hf := Option.some.inj hf
    cases hf
    exact x_vret hx hb hr hlocks hK hP hD hS dX1_keep_38
