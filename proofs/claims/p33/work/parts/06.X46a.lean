theorem kdX4_copyFrom : yX4_copyFrom.cls = RX4 ∧ yX4_copyFrom.cls ≠ "java/lang/invoke/MethodHandle" ∧ yX4_copyFrom.cls ≠ "java/lang/invoke/VarHandle" ∧ (parseMethodDescriptor yX4_copyFrom.desc).map (fun d => d.parameters.length) = some 1 := by decide +kernel
def rmX4_copyFrom : Room := { frames := 1, cells := 0, slots := 0, locals := 48 }
set_option maxHeartbeats 4000000 in
set_option maxRecDepth 100000 in
theorem mX4_copyFrom (l : Launch) (D : va_G) (cy : Nat → ClassId) (a0 a1 b0 b1 : Nat) (sz : Int32) (la : Int32) (ce : Nat → Int32) (osz : Int32) (ola : Int32) (oce : Nat → Int32)  (sz' : Int32) (la' : Int32) (ce' : Nat → Int32) (hf : fX4_copyFrom sz la ce osz ola oce = some (sz', la', ce')) : xMv l D cy yX4_copyFrom aX4_copyFrom rmX4_copyFrom ([.ref a0, .ref b0] : List Value) (wX4 cy a0 a1 sz la ce ++ wX4 cy b0 b1 osz ola oce) (wX4 cy a0 a1 sz' la' ce' ++ wX4 cy b0 b1 osz ola oce) := by
  intro hz
  refine x_start (Qc := xQv D cy _) (cc := cX4_copyFrom) (maxL := 2) (ret := none) (by decide) rfl (Nat.le_of_ble_eq_true rfl) (lv := [(0, .ref a0), (1, .ref b0)]) rfl ?_
  intro p e s m below meth c ls A hx hb hr hml hown hts hlocks hK hP hD hS hA hN hl
  have hown : s.vm.findClass RX4 = some m.cls := hown
  have hbg : ∀ w ∈ wsL_law, w ∈ aX4_copyFrom := fun w h => List.mem_cons_of_mem _ h
  have wd0 : (Cond.fieldLink RX4 9 "ClientMoneyBook$Rows" "size" "I").before ([.ref a0, .ref b0] : List Value).toArray s = true := hts _ (List.mem_cons_of_mem _ wm_3_3)
  have wd1 : (Cond.fieldLink RX4 15 "ClientMoneyBook$Rows" "latestNumber" "I").before ([.ref a0, .ref b0] : List Value).toArray s = true := hts _ (List.mem_cons_of_mem _ wm_3_4)
  have wd2 : (Cond.fieldLink RX4 18 "ClientMoneyBook$Rows" "cells" "[I").before ([.ref a0, .ref b0] : List Value).toArray s = true := hts _ (List.mem_cons_of_mem _ wm_3_5)
  have wd3 : (Cond.methodLink RX4 22 arraycopyName).before ([.ref a0, .ref b0] : List Value).toArray s = true := hts _ (List.mem_cons_of_mem _ wm_6_3)
  have wd4 : (Cond.native arraycopyName).before ([.ref a0, .ref b0] : List Value).toArray s = true := hts _ (List.mem_cons_of_mem _ wm_5_20)
  have wd5 : (Cond.static arraycopyName).before ([.ref a0, .ref b0] : List Value).toArray s = true := hts _ (List.mem_cons_of_mem _ wm_5_21)
  have wd6 : (Cond.initialized "java/lang/System").before ([.ref a0, .ref b0] : List Value).toArray s = true := hts _ (List.mem_cons_of_mem _ wm_5_22)
  have iX4 : ∀ w ∈ u_ws RX4 TX4 3, w ∈ aX4_copyFrom := fun w h => List.mem_cons_of_mem _ (inlX4 w h)
  unfold fX4_copyFrom at hf
  refine lv_aload_n hx hb dX4_copyFrom_0 rfl (lv_at hl 0 rfl) ?_
  refine lv_aload_n hx hb dX4_copyFrom_1 rfl (lv_at hl 1 rfl) ?_
  refine x_get hx hb (C := RX4) (T := TX4) (N := 3) (ci := 4) hts iX4 hown hK hP 2 rfl rfl 0 (by decide) wd0 rfl (.int osz) rfl dX4_copyFrom_2 ?_
  refine x_put hx hb (C := RX4) (T := TX4) (N := 3) (ci := 4) hts iX4 tyX4 tyX4_ok nmX4 hown hK hP hD hS 0 rfl rfl 0 (by decide) wd0 rfl rfl (ty := .int) rfl rfl rfl (Nat.le_of_ble_eq_true rfl) (w' := wX4 cy a0 a1 osz la ce ++ wX4 cy b0 b1 osz ola oce) rfl dX4_copyFrom_5 (fun H locs hP hD hS => ?_)
  refine lv_aload_n hx hb dX4_copyFrom_8 rfl (lv_at hl 0 rfl) ?_
  refine lv_aload_n hx hb dX4_copyFrom_9 rfl (lv_at hl 1 rfl) ?_
  refine x_get hx hb (C := RX4) (T := TX4) (N := 3) (ci := 4) hts iX4 hown hK hP 2 rfl rfl 1 (by decide) wd1 rfl (.int ola) rfl dX4_copyFrom_10 ?_
  refine x_put hx hb (C := RX4) (T := TX4) (N := 3) (ci := 4) hts iX4 tyX4 tyX4_ok nmX4 hown hK hP hD hS 0 rfl rfl 1 (by decide) wd1 rfl rfl (ty := .int) rfl rfl rfl (Nat.le_of_ble_eq_true rfl) (w' := wX4 cy a0 a1 osz ola ce ++ wX4 cy b0 b1 osz ola oce) rfl dX4_copyFrom_13 (fun H locs hP hD hS => ?_)
  refine lv_aload_n hx hb dX4_copyFrom_16 rfl (lv_at hl 1 rfl) ?_
  refine x_get hx hb (C := RX4) (T := TX4) (N := 3) (ci := 4) hts iX4 hown hK hP 2 rfl rfl 2 (by decide) wd2 rfl (.ref b1) rfl dX4_copyFrom_17 ?_
  refine lv_iconst (v := 0) hx hb dX4_copyFrom_20 (by decide) ?_
  refine lv_aload_n hx hb dX4_copyFrom_21 rfl (lv_at hl 0 rfl) ?_
  refine x_get hx hb (C := RX4) (T := TX4) (N := 3) (ci := 4) hts iX4 hown hK hP 0 rfl rfl 2 (by decide) wd2 rfl (.ref a1) rfl dX4_copyFrom_22 ?_
  refine lv_iconst (v := 0) hx hb dX4_copyFrom_25 (by decide) ?_
  refine lv_bipush (v := 60) hx hb dX4_copyFrom_26 (by decide) ?_
  refine x_copyi hx hb (hml.trans hl.1.symm) hown wd3 wd4 wd5 wd6 hK hP hD hS 3 1 (N := 60) rfl rfl rfl rfl ⟨by decide, rfl⟩ (Nat.le_of_ble_eq_true rfl) (Nat.le_of_ble_eq_true rfl) (w' := wX4 cy a0 a1 osz ola oce ++ wX4 cy b0 b1 osz ola oce) rfl dX4_copyFrom_28 (fun H locs hP hD hS => ?_)
  have hf := Option.some.inj hf
  cases hf
  exact x_vret hx hb hr hlocks hK hP hD hS dX4_copyFrom_31
theorem kdX6_copyFrom : yX6_copyFrom.cls = RX6 ∧ yX6_copyFrom.cls ≠ "java/lang/invoke/MethodHandle" ∧ yX6_copyFrom.cls ≠ "java/lang/invoke/VarHandle" ∧ (parseMethodDescriptor yX6_copyFrom.desc).map (fun d => d.parameters.length) = some 1 := by decide +kernel
def rmX6_copyFrom : Room := { frames := 1, cells := 0, slots := 0, locals := 48 }
set_option maxHeartbeats 4000000 in
set_option maxRecDepth 100000 in
theorem mX6_copyFrom (l : Launch) (D : va_G) (cy : Nat → ClassId) (a0 a1 b0 b1 : Nat) (ma : Int32) (lc : Int32) (tc : Nat → Int32) (oma : Int32) (olc : Int32) (otc : Nat → Int32)  (ma' : Int32) (lc' : Int32) (tc' : Nat → Int32) (hf : fX6_copyFrom ma lc tc oma olc otc = some (ma', lc', tc')) : xMv l D cy yX6_copyFrom aX6_copyFrom rmX6_copyFrom ([.ref a0, .ref b0] : List Value) (wX6 cy a0 a1 ma lc tc ++ wX6 cy b0 b1 oma olc otc) (wX6 cy a0 a1 ma' lc' tc' ++ wX6 cy b0 b1 oma olc otc) := by
  intro hz
  refine x_start (Qc := xQv D cy _) (cc := cX6_copyFrom) (maxL := 2) (ret := none) (by decide) rfl (Nat.le_of_ble_eq_true rfl) (lv := [(0, .ref a0), (1, .ref b0)]) rfl ?_
  intro p e s m below meth c ls A hx hb hr hml hown hts hlocks hK hP hD hS hA hN hl
  have hown : s.vm.findClass RX6 = some m.cls := hown
  have hbg : ∀ w ∈ wsL_law, w ∈ aX6_copyFrom := fun w h => List.mem_cons_of_mem _ h
  have wd0 : (Cond.fieldLink RX6 9 "ClientMoneyBook$Trail" "made" "I").before ([.ref a0, .ref b0] : List Value).toArray s = true := hts _ (List.mem_cons_of_mem _ wm_3_9)
  have wd1 : (Cond.fieldLink RX6 15 "ClientMoneyBook$Trail" "latestCheck" "I").before ([.ref a0, .ref b0] : List Value).toArray s = true := hts _ (List.mem_cons_of_mem _ wm_3_10)
  have wd2 : (Cond.fieldLink RX6 18 "ClientMoneyBook$Trail" "cells" "[I").before ([.ref a0, .ref b0] : List Value).toArray s = true := hts _ (List.mem_cons_of_mem _ wm_3_11)
  have wd3 : (Cond.methodLink RX6 22 arraycopyName).before ([.ref a0, .ref b0] : List Value).toArray s = true := hts _ (List.mem_cons_of_mem _ wm_6_8)
  have wd4 : (Cond.native arraycopyName).before ([.ref a0, .ref b0] : List Value).toArray s = true := hts _ (List.mem_cons_of_mem _ wm_5_20)
  have wd5 : (Cond.static arraycopyName).before ([.ref a0, .ref b0] : List Value).toArray s = true := hts _ (List.mem_cons_of_mem _ wm_5_21)
  have wd6 : (Cond.initialized "java/lang/System").before ([.ref a0, .ref b0] : List Value).toArray s = true := hts _ (List.mem_cons_of_mem _ wm_5_22)
  have iX6 : ∀ w ∈ u_ws RX6 TX6 3, w ∈ aX6_copyFrom := fun w h => List.mem_cons_of_mem _ (inlX6 w h)
  unfold fX6_copyFrom at hf
  refine lv_aload_n hx hb dX6_copyFrom_0 rfl (lv_at hl 0 rfl) ?_
  refine lv_aload_n hx hb dX6_copyFrom_1 rfl (lv_at hl 1 rfl) ?_
  refine x_get hx hb (C := RX6) (T := TX6) (N := 3) (ci := 6) hts iX6 hown hK hP 2 rfl rfl 0 (by decide) wd0 rfl (.int oma) rfl dX6_copyFrom_2 ?_
  refine x_put hx hb (C := RX6) (T := TX6) (N := 3) (ci := 6) hts iX6 tyX6 tyX6_ok nmX6 hown hK hP hD hS 0 rfl rfl 0 (by decide) wd0 rfl rfl (ty := .int) rfl rfl rfl (Nat.le_of_ble_eq_true rfl) (w' := wX6 cy a0 a1 oma lc tc ++ wX6 cy b0 b1 oma olc otc) rfl dX6_copyFrom_5 (fun H locs hP hD hS => ?_)
  refine lv_aload_n hx hb dX6_copyFrom_8 rfl (lv_at hl 0 rfl) ?_
  refine lv_aload_n hx hb dX6_copyFrom_9 rfl (lv_at hl 1 rfl) ?_
  refine x_get hx hb (C := RX6) (T := TX6) (N := 3) (ci := 6) hts iX6 hown hK hP 2 rfl rfl 1 (by decide) wd1 rfl (.int olc) rfl dX6_copyFrom_10 ?_
  refine x_put hx hb (C := RX6) (T := TX6) (N := 3) (ci := 6) hts iX6 tyX6 tyX6_ok nmX6 hown hK hP hD hS 0 rfl rfl 1 (by decide) wd1 rfl rfl (ty := .int) rfl rfl rfl (Nat.le_of_ble_eq_true rfl) (w' := wX6 cy a0 a1 oma olc tc ++ wX6 cy b0 b1 oma olc otc) rfl dX6_copyFrom_13 (fun H locs hP hD hS => ?_)
  refine lv_aload_n hx hb dX6_copyFrom_16 rfl (lv_at hl 1 rfl) ?_
  refine x_get hx hb (C := RX6) (T := TX6) (N := 3) (ci := 6) hts iX6 hown hK hP 2 rfl rfl 2 (by decide) wd2 rfl (.ref b1) rfl dX6_copyFrom_17 ?_
  refine lv_iconst (v := 0) hx hb dX6_copyFrom_20 (by decide) ?_
  refine lv_aload_n hx hb dX6_copyFrom_21 rfl (lv_at hl 0 rfl) ?_
  refine x_get hx hb (C := RX6) (T := TX6) (N := 3) (ci := 6) hts iX6 hown hK hP 0 rfl rfl 2 (by decide) wd2 rfl (.ref a1) rfl dX6_copyFrom_22 ?_
  refine lv_iconst (v := 0) hx hb dX6_copyFrom_25 (by decide) ?_
  refine lv_sipush (v := 168) hx hb dX6_copyFrom_26 (by decide) ?_
  refine x_copyi hx hb (hml.trans hl.1.symm) hown wd3 wd4 wd5 wd6 hK hP hD hS 3 1 (N := 168) rfl rfl rfl rfl ⟨by decide, rfl⟩ (Nat.le_of_ble_eq_true rfl) (Nat.le_of_ble_eq_true rfl) (w' := wX6 cy a0 a1 oma olc otc ++ wX6 cy b0 b1 oma olc otc) rfl dX6_copyFrom_29 (fun H locs hP hD hS => ?_)
  have hf := Option.some.inj hf
  cases hf
  exact x_vret hx hb hr hlocks hK hP hD hS dX6_copyFrom_32
theorem kdX4_get : yX4_get.cls = RX4 ∧ yX4_get.cls ≠ "java/lang/invoke/MethodHandle" ∧ yX4_get.cls ≠ "java/lang/invoke/VarHandle" ∧ (parseMethodDescriptor yX4_get.desc).map (fun d => d.parameters.length) = some 2 := by decide +kernel
def rmX4_get : Room := { frames := 0, cells := 0, slots := 0, locals := 0 }
set_option maxHeartbeats 4000000 in
set_option maxRecDepth 100000 in
theorem mX4_get (l : Launch) (D : va_G) (cy : Nat → ClassId) (a0 a1 : Nat) (sz : Int32) (la : Int32) (ce : Nat → Int32) (p1 : Int32) (p2 : Int32) (r : Int32) (hf : fX4_get sz ce p1 p2 = some r) : xMi l D cy yX4_get aX4_get rmX4_get ([.ref a0, .int p1, .int p2] : List Value) (wX4 cy a0 a1 sz la ce) (wX4 cy a0 a1 sz la ce) r := by
  intro hz
  refine x_start (Qc := xQi D cy _ r) (cc := cX4_get) (maxL := 3) (ret := (some .int)) (by decide) rfl (Nat.le_of_ble_eq_true rfl) (lv := [(0, .ref a0), (1, .int p1), (2, .int p2)]) rfl ?_
  intro p e s m below meth c ls A hx hb hr hml hown hts hlocks hK hP hD hS hA hN hl
  have hown : s.vm.findClass RX4 = some m.cls := hown
  have hbg : ∀ w ∈ wsL_law, w ∈ aX4_get := fun w h => List.mem_cons_of_mem _ h
  have wd0 : (Cond.fieldLink RX4 9 "ClientMoneyBook$Rows" "size" "I").before ([.ref a0, .int p1, .int p2] : List Value).toArray s = true := hts _ (List.mem_cons_of_mem _ wm_3_3)
  have wd1 : (Cond.fieldLink RX4 18 "ClientMoneyBook$Rows" "cells" "[I").before ([.ref a0, .int p1, .int p2] : List Value).toArray s = true := hts _ (List.mem_cons_of_mem _ wm_3_5)
  have iX4 : ∀ w ∈ u_ws RX4 TX4 3, w ∈ aX4_get := fun w h => List.mem_cons_of_mem _ (inlX4 w h)
  unfold fX4_get at hf
  refine lv_iload_n hx hb dX4_get_0 rfl (lv_at hl 1 rfl) ?_
  refine lv_if_lt (tgt := 27) hx hb dX4_get_1 (by decide) (fun c_1 => ?_) (fun c_1 => ?_)
  · have hf := x_t c_1 hf
    refine lv_iconst (v := 0) hx hb dX4_get_27 (by decide) ?_
    have hf := Option.some.inj hf
    cases hf
    exact x_iret hx hb hr hlocks hK hP hD hS dX4_get_28
  · have hf := x_f c_1 hf
    refine lv_iload_n hx hb dX4_get_4 rfl (lv_at hl 1 rfl) ?_
    refine lv_aload_n hx hb dX4_get_5 rfl (lv_at hl 0 rfl) ?_
    refine x_get hx hb (C := RX4) (T := TX4) (N := 3) (ci := 4) hts iX4 hown hK hP 0 rfl rfl 0 (by decide) wd0 rfl (.int sz) rfl dX4_get_6 ?_
    refine lv_icmp_ge (tgt := 27) hx hb dX4_get_9 (by decide) (fun c_2 => ?_) (fun c_2 => ?_)
    · have hf := x_t c_2 hf
      refine lv_iconst (v := 0) hx hb dX4_get_27 (by decide) ?_
      have hf := Option.some.inj hf
      cases hf
      exact x_iret hx hb hr hlocks hK hP hD hS dX4_get_28
    · have hf := x_f c_2 hf
      refine lv_iload_n hx hb dX4_get_12 rfl (lv_at hl 1 rfl) ?_
      refine lv_bipush (v := 15) hx hb dX4_get_13 (by decide) ?_
      refine lv_icmp_ge (tgt := 27) hx hb dX4_get_15 (by decide) (fun c_3 => ?_) (fun c_3 => ?_)
      · have hf := x_t c_3 hf
        refine lv_iconst (v := 0) hx hb dX4_get_27 (by decide) ?_
        have hf := Option.some.inj hf
        cases hf
        exact x_iret hx hb hr hlocks hK hP hD hS dX4_get_28
      · have hf := x_f c_3 hf
        refine lv_iload_n hx hb dX4_get_18 rfl (lv_at hl 2 rfl) ?_
        refine lv_if_lt (tgt := 27) hx hb dX4_get_19 (by decide) (fun c_4 => ?_) (fun c_4 => ?_)
        · have hf := x_t c_4 hf
          refine lv_iconst (v := 0) hx hb dX4_get_27 (by decide) ?_
          have hf := Option.some.inj hf
          cases hf
          exact x_iret hx hb hr hlocks hK hP hD hS dX4_get_28
        · have hf := x_f c_4 hf
          refine lv_iload_n hx hb dX4_get_22 rfl (lv_at hl 2 rfl) ?_
          refine lv_iconst (v := 4) hx hb dX4_get_23 (by decide) ?_
          refine lv_icmp_lt (tgt := 29) hx hb dX4_get_24 (by decide) (fun c_5 => ?_) (fun c_5 => ?_)
          · have hf := x_t c_5 hf
            refine lv_aload_n hx hb dX4_get_29 rfl (lv_at hl 0 rfl) ?_
            refine x_get hx hb (C := RX4) (T := TX4) (N := 3) (ci := 4) hts iX4 hown hK hP 0 rfl rfl 2 (by decide) wd1 rfl (.ref a1) rfl dX4_get_30 ?_
            refine lv_iload_n hx hb dX4_get_33 rfl (lv_at hl 1 rfl) ?_
            refine lv_iconst (v := 4) hx hb dX4_get_34 (by decide) ?_
            refine lv_imul hx hb dX4_get_35 ?_
            refine lv_iload_n hx hb dX4_get_36 rfl (lv_at hl 2 rfl) ?_
            refine lv_iadd hx hb dX4_get_37 ?_
            obtain ⟨hi_6, hf⟩ := ckI_el hf
            refine va_iald hx hb hK hP 1 1 rfl rfl hi_6 dX4_get_38 ?_
            have hf := Option.some.inj hf
            cases hf
            exact x_iret hx hb hr hlocks hK hP hD hS dX4_get_39
          · have hf := x_f c_5 hf
            refine lv_iconst (v := 0) hx hb dX4_get_27 (by decide) ?_
            have hf := Option.some.inj hf
            cases hf
            exact x_iret hx hb hr hlocks hK hP hD hS dX4_get_28
theorem kdX4_sumOf : yX4_sumOf.cls = RX4 ∧ yX4_sumOf.cls ≠ "java/lang/invoke/MethodHandle" ∧ yX4_sumOf.cls ≠ "java/lang/invoke/VarHandle" ∧ (parseMethodDescriptor yX4_sumOf.desc).map (fun d => d.parameters.length) = some 2 := by decide +kernel
def rmX4_sumOf : Room := { frames := 1, cells := 0, slots := 0, locals := 22 }
set_option maxHeartbeats 4000000 in
set_option maxRecDepth 100000 in
theorem mX4_sumOf (l : Launch) (D : va_G) (cy : Nat → ClassId) (a0 a1 : Nat) (sz : Int32) (la : Int32) (ce : Nat → Int32) (p1 : Int32) (p2 : Int32) (r : Int32) (hf : fX4_sumOf sz ce p1 p2 = some r) : xMi l D cy yX4_sumOf aX4_sumOf rmX4_sumOf ([.ref a0, .int p1, .int p2] : List Value) (wX4 cy a0 a1 sz la ce) (wX4 cy a0 a1 sz la ce) r := by
  intro hz
  refine x_start (Qc := xQi D cy _ r) (cc := cX4_sumOf) (maxL := 5) (ret := (some .int)) (by decide) rfl (Nat.le_of_ble_eq_true rfl) (lv := [(0, .ref a0), (1, .int p1), (2, .int p2)]) rfl ?_
  intro p e s m below meth c ls A hx hb hr hml hown hts hlocks hK hP hD hS hA hN hl
  have hown : s.vm.findClass RX4 = some m.cls := hown
  have hbg : ∀ w ∈ wsL_law, w ∈ aX4_sumOf := fun w h => List.mem_cons_of_mem _ h
  have wd0 : (Cond.fieldLink RX4 9 "ClientMoneyBook$Rows" "size" "I").before ([.ref a0, .int p1, .int p2] : List Value).toArray s = true := hts _ (List.mem_cons_of_mem _ wm_3_3)
  have iX4 : ∀ w ∈ u_ws RX4 TX4 3, w ∈ aX4_sumOf := fun w h => List.mem_cons_of_mem _ (inlX4 w h)
  unfold fX4_sumOf at hf
  refine lv_iconst (v := 0) hx hb dX4_sumOf_0 (by decide) ?_
  refine lv_istore_n (lv' := [(3, .int 0), (0, .ref a0), (1, .int p1), (2, .int p2)]) hx hb dX4_sumOf_1 rfl hl (by decide) rfl (fun ls hl => ?_)
  refine lv_iconst (v := 0) hx hb dX4_sumOf_2 (by decide) ?_
  refine lv_istore (lv' := [(4, .int 0), (3, .int 0), (0, .ref a0), (1, .int p1), (2, .int p2)]) hx hb dX4_sumOf_3 hl (by decide) rfl (fun ls hl => ?_)
  have hL_5 : ∀ (n : Nat) (z3_9 : Int32) (z4_10 : Int32) (o : Int32) (H : Heap) (locs : List Loc) (ls : Array Slot), fX4_sumOf_L5 sz ce p1 p2 n z3_9 z4_10 = some o → va_P D vwCl (wX4 cy a0 a1 sz la ce) H → va_D A (wX4 cy a0 a1 sz la ce) → va_S A s.heap H locs → lv_has ls 5 [(0, .ref a0), (1, .int p1), (2, .int p2), (3, .int z3_9), (4, .int z4_10)] → True → ((∀ (x3_11 : Int32) , o = x3_11 → ∀ (H : Heap) (locs : List Loc) (ls : Array Slot), va_P D vwCl (wX4 cy a0 a1 sz la ce) H → va_D A (wX4 cy a0 a1 sz la ce) → va_S A s.heap H locs → lv_has ls 5 [(3, .int x3_11)] →  W p l e rmX4_sumOf s m ([.ref a0, .int p1, .int p2] : List Value).toArray below meth c H locs 0 0 (MQ below (xQi D cy (wX4 cy a0 a1 sz la ce) r A) ([.ref a0, .int p1, .int p2] : List Value).toArray s 0 0 A) (F0 m 41 ls []))) → W p l e rmX4_sumOf s m ([.ref a0, .int p1, .int p2] : List Value).toArray below meth c H locs 0 0 (MQ below (xQi D cy (wX4 cy a0 a1 sz la ce) r A) ([.ref a0, .int p1, .int p2] : List Value).toArray s 0 0 A) (F0 m 5 ls []) := by
    intro n
    induction n with
    | zero =>
      intro z3_9 z4_10 o_5 H locs ls hf
      rw [fX4_sumOf_L5] at hf
      cases hf
    | succ n ih =>
      intro z3_9 z4_10 o_5 H locs ls hf hP hD hS hl hr_5 kx_5
      rw [fX4_sumOf_L5] at hf
      refine lv_iload hx hb dX4_sumOf_5 (lv_at hl 4 rfl) ?_
      refine lv_aload_n hx hb dX4_sumOf_7 rfl (lv_at hl 0 rfl) ?_
      refine x_get hx hb (C := RX4) (T := TX4) (N := 3) (ci := 4) hts iX4 hown hK hP 0 rfl rfl 0 (by decide) wd0 rfl (.int sz) rfl dX4_sumOf_8 ?_
      refine lv_icmp_ge (tgt := 41) hx hb dX4_sumOf_11 (by decide) (fun c_12 => ?_) (fun c_12 => ?_)
      · have hf := x_t c_12 hf
        exact kx_5 z3_9 (Option.some.inj hf).symm _ _ _ hP hD hS (lv_sub hl [3] rfl)
      · have hf := x_f c_12 hf
        refine lv_aload_n hx hb dX4_sumOf_14 rfl (lv_at hl 0 rfl) ?_
        refine lv_iload hx hb dX4_sumOf_15 (lv_at hl 4 rfl) ?_
        refine lv_iconst (v := 1) hx hb dX4_sumOf_17 (by decide) ?_
        obtain ⟨r_13, h_14, hf⟩ := bd1_el hf
        refine x_callVi (As := [.int z4_10, .int 1]) (rest := []) ⟨hx, hb, hml, hown, hts⟩ (mX4_get l D cy a0 a1 sz la ce z4_10 1 r_13 h_14) (cwV 2 hts (gcV_X4_get hbg wm_11_6) rfl rfl rfl kdX4_get ⟨Nat.le_of_ble_eq_true rfl, Nat.le_of_ble_eq_true rfl⟩) (w1 := []) (w2 := []) (w' := wX4 cy a0 a1 sz la ce) (List.append_nil _) (List.append_nil _) hP hK hD hN hS hA (q0 := 0) rfl rfl rfl rfl hl rfl (Nat.le_of_ble_eq_true rfl) dX4_sumOf_18 ⟨Nat.zero_le _, Nat.zero_le _⟩ (fun H locs hP hD hS => ?_)
        refine lv_iload_n hx hb dX4_sumOf_21 rfl (lv_at hl 1 rfl) ?_
        refine lv_icmp_ne (tgt := 35) hx hb dX4_sumOf_22 (by decide) (fun c_15 => ?_) (fun c_15 => ?_)
        · have hf := x_f c_15 hf
          refine lv_iinc (v := (z4_10 + 1)) (lv' := [(4, .int (z4_10 + 1)), (0, .ref a0), (1, .int p1), (2, .int p2), (3, .int z3_9)]) hx hb dX4_sumOf_35 hl (k := 4) rfl rfl (by decide) rfl (fun ls hl => ?_)
          refine lv_goto (tgt := 5) hx hb dX4_sumOf_38 (by decide) ?_
          exact ih z3_9 (z4_10 + 1) _ _ _ _ hf hP hD hS (lv_sub hl [1, 2, 3, 4, 0] rfl) hr_5 kx_5
        · have hf := x_t c_15 hf
          refine lv_iload_n hx hb dX4_sumOf_25 rfl (lv_at hl 3 rfl) ?_
          refine lv_aload_n hx hb dX4_sumOf_26 rfl (lv_at hl 0 rfl) ?_
          refine lv_iload hx hb dX4_sumOf_27 (lv_at hl 4 rfl) ?_
          refine lv_iload_n hx hb dX4_sumOf_29 rfl (lv_at hl 2 rfl) ?_
          obtain ⟨r_16, h_17, hf⟩ := bd1_el hf
          refine x_callVi (As := [.int z4_10, .int p2]) (rest := [.int z3_9]) ⟨hx, hb, hml, hown, hts⟩ (mX4_get l D cy a0 a1 sz la ce z4_10 p2 r_16 h_17) (cwV 2 hts (gcV_X4_get hbg wm_11_6) rfl rfl rfl kdX4_get ⟨Nat.le_of_ble_eq_true rfl, Nat.le_of_ble_eq_true rfl⟩) (w1 := []) (w2 := []) (w' := wX4 cy a0 a1 sz la ce) (List.append_nil _) (List.append_nil _) hP hK hD hN hS hA (q0 := 0) rfl rfl rfl rfl hl rfl (Nat.le_of_ble_eq_true rfl) dX4_sumOf_30 ⟨Nat.zero_le _, Nat.zero_le _⟩ (fun H locs hP hD hS => ?_)
          refine lv_iadd hx hb dX4_sumOf_33 ?_
          obtain ⟨x3_18, ex3_18, hf⟩ := lt_el hf
          refine x_topi ex3_18 ?_
          refine lv_istore_n (lv' := [(3, .int x3_18), (0, .ref a0), (1, .int p1), (2, .int p2), (4, .int z4_10)]) hx hb dX4_sumOf_34 rfl hl (by decide) rfl (fun ls hl => ?_)
          refine lv_iinc (v := (z4_10 + 1)) (lv' := [(4, .int (z4_10 + 1)), (3, .int x3_18), (0, .ref a0), (1, .int p1), (2, .int p2)]) hx hb dX4_sumOf_35 hl (k := 4) rfl rfl (by decide) rfl (fun ls hl => ?_)
          refine lv_goto (tgt := 5) hx hb dX4_sumOf_38 (by decide) ?_
          exact ih x3_18 (z4_10 + 1) _ _ _ _ hf hP hD hS (lv_sub hl [2, 3, 4, 1, 0] rfl) hr_5 kx_5
  obtain ⟨x3_8, h1_5, hf⟩ := bd1_el hf
  refine hL_5 2147483648 0 0 _ _ _ _ h1_5 hP hD hS (lv_sub hl [2, 3, 4, 1, 0] rfl) trivial (fun x3_89 ho H locs ls hP hD hS hl => ?_)
  cases ho
  refine lv_iload_n hx hb dX4_sumOf_41 rfl (lv_at hl 0 rfl) ?_
  have hf := Option.some.inj hf
  cases hf
  exact x_iret hx hb hr hlocks hK hP hD hS dX4_sumOf_42
theorem kdX4_find : yX4_find.cls = RX4 ∧ yX4_find.cls ≠ "java/lang/invoke/MethodHandle" ∧ yX4_find.cls ≠ "java/lang/invoke/VarHandle" ∧ (parseMethodDescriptor yX4_find.desc).map (fun d => d.parameters.length) = some 1 := by decide +kernel
def rmX4_find : Room := { frames := 1, cells := 0, slots := 0, locals := 22 }
set_option maxHeartbeats 4000000 in
set_option maxRecDepth 100000 in
theorem mX4_find (l : Launch) (D : va_G) (cy : Nat → ClassId) (a0 a1 : Nat) (sz : Int32) (la : Int32) (ce : Nat → Int32) (p1 : Int32) (r : Int32) (hf : fX4_find sz ce p1 = some r) : xMi l D cy yX4_find aX4_find rmX4_find ([.ref a0, .int p1] : List Value) (wX4 cy a0 a1 sz la ce) (wX4 cy a0 a1 sz la ce) r := by
  intro hz
  refine x_start (Qc := xQi D cy _ r) (cc := cX4_find) (maxL := 3) (ret := (some .int)) (by decide) rfl (Nat.le_of_ble_eq_true rfl) (lv := [(0, .ref a0), (1, .int p1)]) rfl ?_
  intro p e s m below meth c ls A hx hb hr hml hown hts hlocks hK hP hD hS hA hN hl
  have hown : s.vm.findClass RX4 = some m.cls := hown
  have hbg : ∀ w ∈ wsL_law, w ∈ aX4_find := fun w h => List.mem_cons_of_mem _ h
  have wd0 : (Cond.fieldLink RX4 9 "ClientMoneyBook$Rows" "size" "I").before ([.ref a0, .int p1] : List Value).toArray s = true := hts _ (List.mem_cons_of_mem _ wm_3_3)
  have iX4 : ∀ w ∈ u_ws RX4 TX4 3, w ∈ aX4_find := fun w h => List.mem_cons_of_mem _ (inlX4 w h)
  unfold fX4_find at hf
  refine lv_iconst (v := 0) hx hb dX4_find_0 (by decide) ?_
  refine lv_istore_n (lv' := [(2, .int 0), (0, .ref a0), (1, .int p1)]) hx hb dX4_find_1 rfl hl (by decide) rfl (fun ls hl => ?_)
  have hL_2 : ∀ (n : Nat) (z2_5 : Int32) (o : (Int32) ⊕ (Unit)) (H : Heap) (locs : List Loc) (ls : Array Slot), fX4_find_L2 sz ce p1 n z2_5 = some o → va_P D vwCl (wX4 cy a0 a1 sz la ce) H → va_D A (wX4 cy a0 a1 sz la ce) → va_S A s.heap H locs → lv_has ls 3 [(0, .ref a0), (1, .int p1), (2, .int z2_5)] → (∀ r', o = .inl r' → r' = r) → ((o = (.inr ()) → ∀ (H : Heap) (locs : List Loc) (ls : Array Slot), va_P D vwCl (wX4 cy a0 a1 sz la ce) H → va_D A (wX4 cy a0 a1 sz la ce) → va_S A s.heap H locs → lv_has ls 3 [] →  W p l e rmX4_find s m ([.ref a0, .int p1] : List Value).toArray below meth c H locs 0 0 (MQ below (xQi D cy (wX4 cy a0 a1 sz la ce) r A) ([.ref a0, .int p1] : List Value).toArray s 0 0 A) (F0 m 28 ls []))) → W p l e rmX4_find s m ([.ref a0, .int p1] : List Value).toArray below meth c H locs 0 0 (MQ below (xQi D cy (wX4 cy a0 a1 sz la ce) r A) ([.ref a0, .int p1] : List Value).toArray s 0 0 A) (F0 m 2 ls []) := by
    intro n
    induction n with
    | zero =>
      intro z2_5 o_2 H locs ls hf
      rw [fX4_find_L2] at hf
      cases hf
    | succ n ih =>
      intro z2_5 o_2 H locs ls hf hP hD hS hl hr_2 kx_2
      rw [fX4_find_L2] at hf
      refine lv_iload_n hx hb dX4_find_2 rfl (lv_at hl 2 rfl) ?_
      refine lv_aload_n hx hb dX4_find_3 rfl (lv_at hl 0 rfl) ?_
      refine x_get hx hb (C := RX4) (T := TX4) (N := 3) (ci := 4) hts iX4 hown hK hP 0 rfl rfl 0 (by decide) wd0 rfl (.int sz) rfl dX4_find_4 ?_
      refine lv_icmp_ge (tgt := 28) hx hb dX4_find_7 (by decide) (fun c_6 => ?_) (fun c_6 => ?_)
      · have hf := x_t c_6 hf
        exact kx_2 (Option.some.inj hf).symm _ _ _ hP hD hS (lv_sub hl [] rfl)
      · have hf := x_f c_6 hf
        refine lv_aload_n hx hb dX4_find_10 rfl (lv_at hl 0 rfl) ?_
        refine lv_iload_n hx hb dX4_find_11 rfl (lv_at hl 2 rfl) ?_
        refine lv_iconst (v := 0) hx hb dX4_find_12 (by decide) ?_
        obtain ⟨r_7, h_8, hf⟩ := bd1_el hf
        refine x_callVi (As := [.int z2_5, .int 0]) (rest := []) ⟨hx, hb, hml, hown, hts⟩ (mX4_get l D cy a0 a1 sz la ce z2_5 0 r_7 h_8) (cwV 2 hts (gcV_X4_get hbg wm_11_6) rfl rfl rfl kdX4_get ⟨Nat.le_of_ble_eq_true rfl, Nat.le_of_ble_eq_true rfl⟩) (w1 := []) (w2 := []) (w' := wX4 cy a0 a1 sz la ce) (List.append_nil _) (List.append_nil _) hP hK hD hN hS hA (q0 := 0) rfl rfl rfl rfl hl rfl (Nat.le_of_ble_eq_true rfl) dX4_find_13 ⟨Nat.zero_le _, Nat.zero_le _⟩ (fun H locs hP hD hS => ?_)
        refine lv_iload_n hx hb dX4_find_16 rfl (lv_at hl 1 rfl) ?_
        refine lv_icmp_ne (tgt := 22) hx hb dX4_find_17 (by decide) (fun c_9 => ?_) (fun c_9 => ?_)
        · have hf := x_f c_9 hf
          refine lv_iinc (v := (z2_5 + 1)) (lv' := [(2, .int (z2_5 + 1)), (0, .ref a0), (1, .int p1)]) hx hb dX4_find_22 hl (k := 2) rfl rfl (by decide) rfl (fun ls hl => ?_)
          refine lv_goto (tgt := 2) hx hb dX4_find_25 (by decide) ?_
          exact ih (z2_5 + 1) _ _ _ _ hf hP hD hS (lv_sub hl [1, 2, 0] rfl) hr_2 kx_2
        · have hf := x_t c_9 hf
          refine lv_iload_n hx hb dX4_find_20 rfl (lv_at hl 2 rfl) ?_
          have hf := Option.some.inj hf
          have hf := (hr_2 _ hf.symm)
          cases hf
          exact x_iret hx hb hr hlocks hK hP hD hS dX4_find_21
  obtain ⟨o_2, h1_2, hr_2, hf⟩ := bs0_el hf
  refine hL_2 2147483648 0 o_2 _ _ _ h1_2 hP hD hS (lv_sub hl [1, 2, 0] rfl) hr_2 (fun  ho H locs ls hP hD hS hl => ?_)
  have hf := hf () ho
  refine lv_iconst (v := (-1)) hx hb dX4_find_28 (by decide) ?_
  have hf := Option.some.inj hf
  cases hf
  exact x_iret hx hb hr hlocks hK hP hD hS dX4_find_29
theorem kdX4_set : yX4_set.cls = RX4 ∧ yX4_set.cls ≠ "java/lang/invoke/MethodHandle" ∧ yX4_set.cls ≠ "java/lang/invoke/VarHandle" ∧ (parseMethodDescriptor yX4_set.desc).map (fun d => d.parameters.length) = some 3 := by decide +kernel
def rmX4_set : Room := { frames := 0, cells := 0, slots := 0, locals := 0 }
set_option maxHeartbeats 4000000 in
set_option maxRecDepth 100000 in
theorem mX4_set (l : Launch) (D : va_G) (cy : Nat → ClassId) (a0 a1 : Nat) (sz : Int32) (la : Int32) (ce : Nat → Int32) (p1 : Int32) (p2 : Int32) (p3 : Int32) (ce' : Nat → Int32) (hf : fX4_set sz ce p1 p2 p3 = some ce') : xMv l D cy yX4_set aX4_set rmX4_set ([.ref a0, .int p1, .int p2, .int p3] : List Value) (wX4 cy a0 a1 sz la ce) (wX4 cy a0 a1 sz la ce') := by
  intro hz
  refine x_start (Qc := xQv D cy _) (cc := cX4_set) (maxL := 4) (ret := none) (by decide) rfl (Nat.le_of_ble_eq_true rfl) (lv := [(0, .ref a0), (1, .int p1), (2, .int p2), (3, .int p3)]) rfl ?_
  intro p e s m below meth c ls A hx hb hr hml hown hts hlocks hK hP hD hS hA hN hl
  have hown : s.vm.findClass RX4 = some m.cls := hown
  have hbg : ∀ w ∈ wsL_law, w ∈ aX4_set := fun w h => List.mem_cons_of_mem _ h
  have wd0 : (Cond.fieldLink RX4 9 "ClientMoneyBook$Rows" "size" "I").before ([.ref a0, .int p1, .int p2, .int p3] : List Value).toArray s = true := hts _ (List.mem_cons_of_mem _ wm_3_3)
  have wd1 : (Cond.fieldLink RX4 18 "ClientMoneyBook$Rows" "cells" "[I").before ([.ref a0, .int p1, .int p2, .int p3] : List Value).toArray s = true := hts _ (List.mem_cons_of_mem _ wm_3_5)
  have iX4 : ∀ w ∈ u_ws RX4 TX4 3, w ∈ aX4_set := fun w h => List.mem_cons_of_mem _ (inlX4 w h)
  unfold fX4_set at hf
  refine lv_iload_n hx hb dX4_set_0 rfl (lv_at hl 1 rfl) ?_
  refine lv_if_lt (tgt := 27) hx hb dX4_set_1 (by decide) (fun c_1 => ?_) (fun c_1 => ?_)
  · have hf := x_t c_1 hf
    have hf := Option.some.inj hf
    cases hf
    exact x_vret hx hb hr hlocks hK hP hD hS dX4_set_27
  · have hf := x_f c_1 hf
    refine lv_iload_n hx hb dX4_set_4 rfl (lv_at hl 1 rfl) ?_
    refine lv_aload_n hx hb dX4_set_5 rfl (lv_at hl 0 rfl) ?_
    refine x_get hx hb (C := RX4) (T := TX4) (N := 3) (ci := 4) hts iX4 hown hK hP 0 rfl rfl 0 (by decide) wd0 rfl (.int sz) rfl dX4_set_6 ?_
    refine lv_icmp_ge (tgt := 27) hx hb dX4_set_9 (by decide) (fun c_2 => ?_) (fun c_2 => ?_)
    · have hf := x_t c_2 hf
      have hf := Option.some.inj hf
      cases hf
      exact x_vret hx hb hr hlocks hK hP hD hS dX4_set_27
    · have hf := x_f c_2 hf
      refine lv_iload_n hx hb dX4_set_12 rfl (lv_at hl 1 rfl) ?_
      refine lv_bipush (v := 15) hx hb dX4_set_13 (by decide) ?_
      refine lv_icmp_ge (tgt := 27) hx hb dX4_set_15 (by decide) (fun c_3 => ?_) (fun c_3 => ?_)
      · have hf := x_t c_3 hf
        have hf := Option.some.inj hf
        cases hf
        exact x_vret hx hb hr hlocks hK hP hD hS dX4_set_27
      · have hf := x_f c_3 hf
        refine lv_iload_n hx hb dX4_set_18 rfl (lv_at hl 2 rfl) ?_
        refine lv_if_lt (tgt := 27) hx hb dX4_set_19 (by decide) (fun c_4 => ?_) (fun c_4 => ?_)
        · have hf := x_t c_4 hf
          have hf := Option.some.inj hf
          cases hf
          exact x_vret hx hb hr hlocks hK hP hD hS dX4_set_27
        · have hf := x_f c_4 hf
          refine lv_iload_n hx hb dX4_set_22 rfl (lv_at hl 2 rfl) ?_
          refine lv_iconst (v := 4) hx hb dX4_set_23 (by decide) ?_
          refine lv_icmp_lt (tgt := 28) hx hb dX4_set_24 (by decide) (fun c_5 => ?_) (fun c_5 => ?_)
          · have hf := x_t c_5 hf
            refine lv_aload_n hx hb dX4_set_28 rfl (lv_at hl 0 rfl) ?_
            refine x_get hx hb (C := RX4) (T := TX4) (N := 3) (ci := 4) hts iX4 hown hK hP 0 rfl rfl 2 (by decide) wd1 rfl (.ref a1) rfl dX4_set_29 ?_
            refine lv_iload_n hx hb dX4_set_32 rfl (lv_at hl 1 rfl) ?_
            refine lv_iconst (v := 4) hx hb dX4_set_33 (by decide) ?_
            refine lv_imul hx hb dX4_set_34 ?_
            refine lv_iload_n hx hb dX4_set_35 rfl (lv_at hl 2 rfl) ?_
            refine lv_iadd hx hb dX4_set_36 ?_
            refine lv_iload_n hx hb dX4_set_37 rfl (lv_at hl 3 rfl) ?_
            obtain ⟨hi_6, hf⟩ := ckI_el hf
            obtain ⟨ce_7, ece_7, hf⟩ := lt_el hf
            refine x_iast hx hb hK hP hD hS 1 rfl hi_6 ece_7 (w' := wX4 cy a0 a1 sz la ce_7) rfl dX4_set_38 (fun H locs hP hD hS => ?_)
            have hf := Option.some.inj hf
            cases hf
            exact x_vret hx hb hr hlocks hK hP hD hS dX4_set_39
          · have hf := x_f c_5 hf
            have hf := Option.some.inj hf
            cases hf
            exact x_vret hx hb hr hlocks hK hP hD hS dX4_set_27
theorem kdX4_append : yX4_append.cls = RX4 ∧ yX4_append.cls ≠ "java/lang/invoke/MethodHandle" ∧ yX4_append.cls ≠ "java/lang/invoke/VarHandle" ∧ (parseMethodDescriptor yX4_append.desc).map (fun d => d.parameters.length) = some 3 := by decide +kernel
def rmX4_append : Room := { frames := 1, cells := 0, slots := 0, locals := 23 }
set_option maxHeartbeats 4000000 in
set_option maxRecDepth 100000 in
theorem mX4_append (l : Launch) (D : va_G) (cy : Nat → ClassId) (a0 a1 : Nat) (sz : Int32) (la : Int32) (ce : Nat → Int32) (p1 : Int32) (p2 : Int32) (p3 : Int32) (r : Int32) (sz' : Int32) (la' : Int32) (ce' : Nat → Int32) (hf : fX4_append sz la ce p1 p2 p3 = some (r, sz', la', ce')) : xMi l D cy yX4_append aX4_append rmX4_append ([.ref a0, .int p1, .int p2, .int p3] : List Value) (wX4 cy a0 a1 sz la ce) (wX4 cy a0 a1 sz' la' ce') r := by
  intro hz
  refine x_start (Qc := xQi D cy _ r) (cc := cX4_append) (maxL := 5) (ret := (some .int)) (by decide) rfl (Nat.le_of_ble_eq_true rfl) (lv := [(0, .ref a0), (1, .int p1), (2, .int p2), (3, .int p3)]) rfl ?_
  intro p e s m below meth c ls A hx hb hr hml hown hts hlocks hK hP hD hS hA hN hl
  have hown : s.vm.findClass RX4 = some m.cls := hown
  have hbg : ∀ w ∈ wsL_law, w ∈ aX4_append := fun w h => List.mem_cons_of_mem _ h
  have wd0 : (Cond.fieldLink RX4 9 "ClientMoneyBook$Rows" "size" "I").before ([.ref a0, .int p1, .int p2, .int p3] : List Value).toArray s = true := hts _ (List.mem_cons_of_mem _ wm_3_3)
  have wd1 : (Cond.fieldLink RX4 15 "ClientMoneyBook$Rows" "latestNumber" "I").before ([.ref a0, .int p1, .int p2, .int p3] : List Value).toArray s = true := hts _ (List.mem_cons_of_mem _ wm_3_4)
  have iX4 : ∀ w ∈ u_ws RX4 TX4 3, w ∈ aX4_append := fun w h => List.mem_cons_of_mem _ (inlX4 w h)
  unfold fX4_append at hf
  refine lv_aload_n hx hb dX4_append_0 rfl (lv_at hl 0 rfl) ?_
  refine x_get hx hb (C := RX4) (T := TX4) (N := 3) (ci := 4) hts iX4 hown hK hP 0 rfl rfl 0 (by decide) wd0 rfl (.int sz) rfl dX4_append_1 ?_
  refine lv_bipush (v := 15) hx hb dX4_append_4 (by decide) ?_
  refine lv_icmp_lt (tgt := 12) hx hb dX4_append_6 (by decide) (fun c_1 => ?_) (fun c_1 => ?_)
  · have hf := x_t c_1 hf
    refine lv_aload_n hx hb dX4_append_12 rfl (lv_at hl 0 rfl) ?_
    refine x_get hx hb (C := RX4) (T := TX4) (N := 3) (ci := 4) hts iX4 hown hK hP 0 rfl rfl 0 (by decide) wd0 rfl (.int sz) rfl dX4_append_13 ?_
    refine lv_istore (lv' := [(4, .int sz), (0, .ref a0), (1, .int p1), (2, .int p2), (3, .int p3)]) hx hb dX4_append_16 hl (by decide) rfl (fun ls hl => ?_)
    refine lv_aload_n hx hb dX4_append_18 rfl (lv_at hl 1 rfl) ?_
    refine lv_dup hx hb dX4_append_19 rfl ?_
    refine x_get hx hb (C := RX4) (T := TX4) (N := 3) (ci := 4) hts iX4 hown hK hP 0 rfl rfl 0 (by decide) wd0 rfl (.int sz) rfl dX4_append_20 ?_
    refine lv_iconst (v := 1) hx hb dX4_append_23 (by decide) ?_
    refine lv_iadd hx hb dX4_append_24 ?_
    obtain ⟨sz_2, esz_2, hf⟩ := lt_el hf
    refine x_topi esz_2 ?_
    refine x_put hx hb (C := RX4) (T := TX4) (N := 3) (ci := 4) hts iX4 tyX4 tyX4_ok nmX4 hown hK hP hD hS 0 rfl rfl 0 (by decide) wd0 rfl rfl (ty := .int) rfl rfl rfl (Nat.le_of_ble_eq_true rfl) (w' := wX4 cy a0 a1 sz_2 la ce) rfl dX4_append_25 (fun H locs hP hD hS => ?_)
    refine lv_aload_n hx hb dX4_append_28 rfl (lv_at hl 1 rfl) ?_
    refine lv_dup hx hb dX4_append_29 rfl ?_
    refine x_get hx hb (C := RX4) (T := TX4) (N := 3) (ci := 4) hts iX4 hown hK hP 0 rfl rfl 1 (by decide) wd1 rfl (.int la) rfl dX4_append_30 ?_
    refine lv_iconst (v := 1) hx hb dX4_append_33 (by decide) ?_
    refine lv_iadd hx hb dX4_append_34 ?_
    obtain ⟨la_3, ela_3, hf⟩ := lt_el hf
    refine x_topi ela_3 ?_
    refine x_put hx hb (C := RX4) (T := TX4) (N := 3) (ci := 4) hts iX4 tyX4 tyX4_ok nmX4 hown hK hP hD hS 0 rfl rfl 1 (by decide) wd1 rfl rfl (ty := .int) rfl rfl rfl (Nat.le_of_ble_eq_true rfl) (w' := wX4 cy a0 a1 sz_2 la_3 ce) rfl dX4_append_35 (fun H locs hP hD hS => ?_)
    refine lv_aload_n hx hb dX4_append_38 rfl (lv_at hl 1 rfl) ?_
    refine lv_iload hx hb dX4_append_39 (lv_at hl 0 rfl) ?_
    refine lv_iconst (v := 0) hx hb dX4_append_41 (by decide) ?_
    refine lv_aload_n hx hb dX4_append_42 rfl (lv_at hl 1 rfl) ?_
    refine x_get hx hb (C := RX4) (T := TX4) (N := 3) (ci := 4) hts iX4 hown hK hP 0 rfl rfl 1 (by decide) wd1 rfl (.int la_3) rfl dX4_append_43 ?_
    obtain ⟨ce_4, h_5, hf⟩ := bd1_el hf
    refine x_callVv (As := [.int sz, .int 0, .int la_3]) (rest := []) ⟨hx, hb, hml, hown, hts⟩ (mX4_set l D cy a0 a1 sz_2 la_3 ce sz 0 la_3 ce_4 h_5) (cwV 3 hts (gcV_X4_set hbg wm_12_7) rfl rfl rfl kdX4_set ⟨Nat.le_of_ble_eq_true rfl, Nat.le_of_ble_eq_true rfl⟩) (w1 := []) (w2 := []) (w' := wX4 cy a0 a1 sz_2 la_3 ce_4) (List.append_nil _) (List.append_nil _) hP hK hD hN hS hA (q0 := 0) rfl rfl rfl rfl hl rfl (Nat.le_of_ble_eq_true rfl) dX4_append_46 ⟨Nat.zero_le _, Nat.zero_le _⟩ (fun H locs hP hD hS => ?_)
    refine lv_aload_n hx hb dX4_append_49 rfl (lv_at hl 1 rfl) ?_
    refine lv_iload hx hb dX4_append_50 (lv_at hl 0 rfl) ?_
    refine lv_iconst (v := 1) hx hb dX4_append_52 (by decide) ?_
    refine lv_iload_n hx hb dX4_append_53 rfl (lv_at hl 2 rfl) ?_
    obtain ⟨ce_6, h_7, hf⟩ := bd1_el hf
    refine x_callVv (As := [.int sz, .int 1, .int p1]) (rest := []) ⟨hx, hb, hml, hown, hts⟩ (mX4_set l D cy a0 a1 sz_2 la_3 ce_4 sz 1 p1 ce_6 h_7) (cwV 3 hts (gcV_X4_set hbg wm_12_7) rfl rfl rfl kdX4_set ⟨Nat.le_of_ble_eq_true rfl, Nat.le_of_ble_eq_true rfl⟩) (w1 := []) (w2 := []) (w' := wX4 cy a0 a1 sz_2 la_3 ce_6) (List.append_nil _) (List.append_nil _) hP hK hD hN hS hA (q0 := 0) rfl rfl rfl rfl hl rfl (Nat.le_of_ble_eq_true rfl) dX4_append_54 ⟨Nat.zero_le _, Nat.zero_le _⟩ (fun H locs hP hD hS => ?_)
    refine lv_aload_n hx hb dX4_append_57 rfl (lv_at hl 1 rfl) ?_
    refine lv_iload hx hb dX4_append_58 (lv_at hl 0 rfl) ?_
    refine lv_iconst (v := 2) hx hb dX4_append_60 (by decide) ?_
    refine lv_iload_n hx hb dX4_append_61 rfl (lv_at hl 3 rfl) ?_
    obtain ⟨ce_8, h_9, hf⟩ := bd1_el hf
    refine x_callVv (As := [.int sz, .int 2, .int p2]) (rest := []) ⟨hx, hb, hml, hown, hts⟩ (mX4_set l D cy a0 a1 sz_2 la_3 ce_6 sz 2 p2 ce_8 h_9) (cwV 3 hts (gcV_X4_set hbg wm_12_7) rfl rfl rfl kdX4_set ⟨Nat.le_of_ble_eq_true rfl, Nat.le_of_ble_eq_true rfl⟩) (w1 := []) (w2 := []) (w' := wX4 cy a0 a1 sz_2 la_3 ce_8) (List.append_nil _) (List.append_nil _) hP hK hD hN hS hA (q0 := 0) rfl rfl rfl rfl hl rfl (Nat.le_of_ble_eq_true rfl) dX4_append_62 ⟨Nat.zero_le _, Nat.zero_le _⟩ (fun H locs hP hD hS => ?_)
    refine lv_aload_n hx hb dX4_append_65 rfl (lv_at hl 1 rfl) ?_
    refine lv_iload hx hb dX4_append_66 (lv_at hl 0 rfl) ?_
    refine lv_iconst (v := 3) hx hb dX4_append_68 (by decide) ?_
    refine lv_iload_n hx hb dX4_append_69 rfl (lv_at hl 4 rfl) ?_
    obtain ⟨ce_10, h_11, hf⟩ := bd1_el hf
    refine x_callVv (As := [.int sz, .int 3, .int p3]) (rest := []) ⟨hx, hb, hml, hown, hts⟩ (mX4_set l D cy a0 a1 sz_2 la_3 ce_8 sz 3 p3 ce_10 h_11) (cwV 3 hts (gcV_X4_set hbg wm_12_7) rfl rfl rfl kdX4_set ⟨Nat.le_of_ble_eq_true rfl, Nat.le_of_ble_eq_true rfl⟩) (w1 := []) (w2 := []) (w' := wX4 cy a0 a1 sz_2 la_3 ce_10) (List.append_nil _) (List.append_nil _) hP hK hD hN hS hA (q0 := 0) rfl rfl rfl rfl hl rfl (Nat.le_of_ble_eq_true rfl) dX4_append_70 ⟨Nat.zero_le _, Nat.zero_le _⟩ (fun H locs hP hD hS => ?_)
    refine lv_aload_n hx hb dX4_append_73 rfl (lv_at hl 1 rfl) ?_
    refine x_get hx hb (C := RX4) (T := TX4) (N := 3) (ci := 4) hts iX4 hown hK hP 0 rfl rfl 1 (by decide) wd1 rfl (.int la_3) rfl dX4_append_74 ?_
    have hf := Option.some.inj hf
    cases hf
    exact x_iret hx hb hr hlocks hK hP hD hS dX4_append_77
  · have hf := x_f c_1 hf
    refine lv_bipush (v := (-4)) hx hb dX4_append_9 (by decide) ?_
    have hf := Option.some.inj hf
    cases hf
    exact x_iret hx hb hr hlocks hK hP hD hS dX4_append_11
theorem kdX4_remove : yX4_remove.cls = RX4 ∧ yX4_remove.cls ≠ "java/lang/invoke/MethodHandle" ∧ yX4_remove.cls ≠ "java/lang/invoke/VarHandle" ∧ (parseMethodDescriptor yX4_remove.desc).map (fun d => d.parameters.length) = some 1 := by decide +kernel
def rmX4_remove : Room := { frames := 1, cells := 0, slots := 0, locals := 23 }
set_option maxHeartbeats 4000000 in
set_option maxRecDepth 100000 in
theorem mX4_remove (l : Launch) (D : va_G) (cy : Nat → ClassId) (a0 a1 : Nat) (sz : Int32) (la : Int32) (ce : Nat → Int32) (p1 : Int32) (sz' : Int32) (ce' : Nat → Int32) (hf : fX4_remove sz ce p1 = some (sz', ce')) : xMv l D cy yX4_remove aX4_remove rmX4_remove ([.ref a0, .int p1] : List Value) (wX4 cy a0 a1 sz la ce) (wX4 cy a0 a1 sz' la ce') := by
  intro hz
  refine x_start (Qc := xQv D cy _) (cc := cX4_remove) (maxL := 4) (ret := none) (by decide) rfl (Nat.le_of_ble_eq_true rfl) (lv := [(0, .ref a0), (1, .int p1)]) rfl ?_
  intro p e s m below meth c ls A hx hb hr hml hown hts hlocks hK hP hD hS hA hN hl
  have hown : s.vm.findClass RX4 = some m.cls := hown
  have hbg : ∀ w ∈ wsL_law, w ∈ aX4_remove := fun w h => List.mem_cons_of_mem _ h
  have wd0 : (Cond.fieldLink RX4 9 "ClientMoneyBook$Rows" "size" "I").before ([.ref a0, .int p1] : List Value).toArray s = true := hts _ (List.mem_cons_of_mem _ wm_3_3)
  have iX4 : ∀ w ∈ u_ws RX4 TX4 3, w ∈ aX4_remove := fun w h => List.mem_cons_of_mem _ (inlX4 w h)
  unfold fX4_remove at hf
  refine lv_iload_n hx hb dX4_remove_0 rfl (lv_at hl 1 rfl) ?_
  refine lv_if_lt (tgt := 12) hx hb dX4_remove_1 (by decide) (fun c_1 => ?_) (fun c_1 => ?_)
  · have hf := x_t c_1 hf
    have hf := Option.some.inj hf
    cases hf
    exact x_vret hx hb hr hlocks hK hP hD hS dX4_remove_12
  · have hf := x_f c_1 hf
    refine lv_iload_n hx hb dX4_remove_4 rfl (lv_at hl 1 rfl) ?_
    refine lv_aload_n hx hb dX4_remove_5 rfl (lv_at hl 0 rfl) ?_
    refine x_get hx hb (C := RX4) (T := TX4) (N := 3) (ci := 4) hts iX4 hown hK hP 0 rfl rfl 0 (by decide) wd0 rfl (.int sz) rfl dX4_remove_6 ?_
    refine lv_icmp_lt (tgt := 13) hx hb dX4_remove_9 (by decide) (fun c_2 => ?_) (fun c_2 => ?_)
    · have hf := x_t c_2 hf
      refine lv_iload_n hx hb dX4_remove_13 rfl (lv_at hl 1 rfl) ?_
      refine lv_istore_n (lv' := [(2, .int p1), (0, .ref a0), (1, .int p1)]) hx hb dX4_remove_14 rfl hl (by decide) rfl (fun ls hl => ?_)
      have hL_15 : ∀ (n : Nat) (ce_12 : Nat → Int32) (z2_13 : Int32) (o : (Nat → Int32)) (H : Heap) (locs : List Loc) (ls : Array Slot), fX4_remove_L15 sz n ce_12 z2_13 = some o → va_P D vwCl (wX4 cy a0 a1 sz la ce_12) H → va_D A (wX4 cy a0 a1 sz la ce_12) → va_S A s.heap H locs → lv_has ls 4 [(0, .ref a0), (2, .int z2_13)] → True → ((∀ (ce_14 : Nat → Int32) , o = ce_14 → ∀ (H : Heap) (locs : List Loc) (ls : Array Slot), va_P D vwCl (wX4 cy a0 a1 sz la ce_14) H → va_D A (wX4 cy a0 a1 sz la ce_14) → va_S A s.heap H locs → lv_has ls 4 [(0, .ref a0)] →  W p l e rmX4_remove s m ([.ref a0, .int p1] : List Value).toArray below meth c H locs 0 0 (MQ below (xQv D cy (wX4 cy a0 a1 sz' la ce') A) ([.ref a0, .int p1] : List Value).toArray s 0 0 A) (F0 m 58 ls []))) → W p l e rmX4_remove s m ([.ref a0, .int p1] : List Value).toArray below meth c H locs 0 0 (MQ below (xQv D cy (wX4 cy a0 a1 sz' la ce') A) ([.ref a0, .int p1] : List Value).toArray s 0 0 A) (F0 m 15 ls []) := by
        intro n
        induction n with
        | zero =>
          intro ce_12 z2_13 o_15 H locs ls hf
          rw [fX4_remove_L15] at hf
          cases hf
        | succ n ih =>
          intro ce_12 z2_13 o_15 H locs ls hf hP hD hS hl hr_15 kx_15
          rw [fX4_remove_L15] at hf
          refine lv_iload_n hx hb dX4_remove_15 rfl (lv_at hl 1 rfl) ?_
          refine lv_iconst (v := 1) hx hb dX4_remove_16 (by decide) ?_
          refine lv_iadd hx hb dX4_remove_17 ?_
          refine lv_aload_n hx hb dX4_remove_18 rfl (lv_at hl 0 rfl) ?_
          refine x_get hx hb (C := RX4) (T := TX4) (N := 3) (ci := 4) hts iX4 hown hK hP 0 rfl rfl 0 (by decide) wd0 rfl (.int sz) rfl dX4_remove_19 ?_
          refine lv_icmp_ge (tgt := 58) hx hb dX4_remove_22 (by decide) (fun c_15 => ?_) (fun c_15 => ?_)
          · have hf := x_t c_15 hf
            exact kx_15 ce_12 (Option.some.inj hf).symm _ _ _ hP hD hS (lv_sub hl [0] rfl)
          · have hf := x_f c_15 hf
            refine lv_iconst (v := 0) hx hb dX4_remove_25 (by decide) ?_
            refine lv_istore_n (lv' := [(3, .int 0), (0, .ref a0), (2, .int z2_13)]) hx hb dX4_remove_26 rfl hl (by decide) rfl (fun ls hl => ?_)
            have hL_27 : ∀ (n : Nat) (ce_17 : Nat → Int32) (z3_18 : Int32) (o : (Nat → Int32)) (H : Heap) (locs : List Loc) (ls : Array Slot), fX4_remove_L27 sz z2_13 n ce_17 z3_18 = some o → va_P D vwCl (wX4 cy a0 a1 sz la ce_17) H → va_D A (wX4 cy a0 a1 sz la ce_17) → va_S A s.heap H locs → lv_has ls 4 [(0, .ref a0), (2, .int z2_13), (3, .int z3_18)] → True → ((∀ (ce_19 : Nat → Int32) , o = ce_19 → ∀ (H : Heap) (locs : List Loc) (ls : Array Slot), va_P D vwCl (wX4 cy a0 a1 sz la ce_19) H → va_D A (wX4 cy a0 a1 sz la ce_19) → va_S A s.heap H locs → lv_has ls 4 [(0, .ref a0), (2, .int z2_13)] →  W p l e rmX4_remove s m ([.ref a0, .int p1] : List Value).toArray below meth c H locs 0 0 (MQ below (xQv D cy (wX4 cy a0 a1 sz' la ce') A) ([.ref a0, .int p1] : List Value).toArray s 0 0 A) (F0 m 52 ls []))) → W p l e rmX4_remove s m ([.ref a0, .int p1] : List Value).toArray below meth c H locs 0 0 (MQ below (xQv D cy (wX4 cy a0 a1 sz' la ce') A) ([.ref a0, .int p1] : List Value).toArray s 0 0 A) (F0 m 27 ls []) := by
              intro n
              induction n with
              | zero =>
                intro ce_17 z3_18 o_27 H locs ls hf
                rw [fX4_remove_L27] at hf
                cases hf
              | succ n ih =>
                intro ce_17 z3_18 o_27 H locs ls hf hP hD hS hl hr_27 kx_27
                rw [fX4_remove_L27] at hf
                refine lv_iload_n hx hb dX4_remove_27 rfl (lv_at hl 2 rfl) ?_
                refine lv_iconst (v := 4) hx hb dX4_remove_28 (by decide) ?_
                refine lv_icmp_ge (tgt := 52) hx hb dX4_remove_29 (by decide) (fun c_20 => ?_) (fun c_20 => ?_)
                · have hf := x_t c_20 hf
                  exact kx_27 ce_17 (Option.some.inj hf).symm _ _ _ hP hD hS (lv_sub hl [0, 1] rfl)
                · have hf := x_f c_20 hf
                  refine lv_aload_n hx hb dX4_remove_32 rfl (lv_at hl 0 rfl) ?_
                  refine lv_iload_n hx hb dX4_remove_33 rfl (lv_at hl 1 rfl) ?_
                  refine lv_iload_n hx hb dX4_remove_34 rfl (lv_at hl 2 rfl) ?_
                  refine lv_aload_n hx hb dX4_remove_35 rfl (lv_at hl 0 rfl) ?_
                  refine lv_iload_n hx hb dX4_remove_36 rfl (lv_at hl 1 rfl) ?_
                  refine lv_iconst (v := 1) hx hb dX4_remove_37 (by decide) ?_
                  refine lv_iadd hx hb dX4_remove_38 ?_
                  refine lv_iload_n hx hb dX4_remove_39 rfl (lv_at hl 2 rfl) ?_
                  obtain ⟨r_21, h_22, hf⟩ := bd1_el hf
                  refine x_callVi (As := [.int (z2_13 + 1), .int z3_18]) (rest := [.int z3_18, .int z2_13, .ref a0]) ⟨hx, hb, hml, hown, hts⟩ (mX4_get l D cy a0 a1 sz la ce_17 (z2_13 + 1) z3_18 r_21 h_22) (cwV 2 hts (gcV_X4_get hbg wm_11_6) rfl rfl rfl kdX4_get ⟨Nat.le_of_ble_eq_true rfl, Nat.le_of_ble_eq_true rfl⟩) (w1 := []) (w2 := []) (w' := wX4 cy a0 a1 sz la ce_17) (List.append_nil _) (List.append_nil _) hP hK hD hN hS hA (q0 := 0) rfl rfl rfl rfl hl rfl (Nat.le_of_ble_eq_true rfl) dX4_remove_40 ⟨Nat.zero_le _, Nat.zero_le _⟩ (fun H locs hP hD hS => ?_)
                  obtain ⟨ce_23, h_24, hf⟩ := bd1_el hf
                  refine x_callVv (As := [.int z2_13, .int z3_18, .int r_21]) (rest := []) ⟨hx, hb, hml, hown, hts⟩ (mX4_set l D cy a0 a1 sz la ce_17 z2_13 z3_18 r_21 ce_23 h_24) (cwV 3 hts (gcV_X4_set hbg wm_12_7) rfl rfl rfl kdX4_set ⟨Nat.le_of_ble_eq_true rfl, Nat.le_of_ble_eq_true rfl⟩) (w1 := []) (w2 := []) (w' := wX4 cy a0 a1 sz la ce_23) (List.append_nil _) (List.append_nil _) hP hK hD hN hS hA (q0 := 0) rfl rfl rfl rfl hl rfl (Nat.le_of_ble_eq_true rfl) dX4_remove_43 ⟨Nat.zero_le _, Nat.zero_le _⟩ (fun H locs hP hD hS => ?_)
                  refine lv_iinc (v := (z3_18 + 1)) (lv' := [(3, .int (z3_18 + 1)), (0, .ref a0), (2, .int z2_13)]) hx hb dX4_remove_46 hl (k := 2) rfl rfl (by decide) rfl (fun ls hl => ?_)
                  refine lv_goto (tgt := 27) hx hb dX4_remove_49 (by decide) ?_
                  exact ih ce_23 (z3_18 + 1) _ _ _ _ hf hP hD hS (lv_sub hl [1, 2, 0] rfl) hr_27 kx_27
            obtain ⟨ce_16, h1_27, hf⟩ := bd1_el hf
            refine hL_27 2147483648 ce_12 0 _ _ _ _ h1_27 hP hD hS (lv_sub hl [1, 2, 0] rfl) trivial (fun ce_169 ho H locs ls hP hD hS hl => ?_)
            cases ho
            refine lv_iinc (v := (z2_13 + 1)) (lv' := [(2, .int (z2_13 + 1)), (0, .ref a0)]) hx hb dX4_remove_52 hl (k := 1) rfl rfl (by decide) rfl (fun ls hl => ?_)
            refine lv_goto (tgt := 15) hx hb dX4_remove_55 (by decide) ?_
            exact ih ce_16 (z2_13 + 1) _ _ _ _ hf hP hD hS (lv_sub hl [1, 0] rfl) hr_15 kx_15
      obtain ⟨ce_10, h1_15, hf⟩ := bd1_el hf
      refine hL_15 2147483648 ce p1 _ _ _ _ h1_15 hP hD hS (lv_sub hl [1, 0] rfl) trivial (fun ce_109 ho H locs ls hP hD hS hl => ?_)
      cases ho
      refine lv_aload_n hx hb dX4_remove_58 rfl (lv_at hl 0 rfl) ?_
      refine lv_dup hx hb dX4_remove_59 rfl ?_
      refine x_get hx hb (C := RX4) (T := TX4) (N := 3) (ci := 4) hts iX4 hown hK hP 0 rfl rfl 0 (by decide) wd0 rfl (.int sz) rfl dX4_remove_60 ?_
      refine lv_iconst (v := 1) hx hb dX4_remove_63 (by decide) ?_
      refine lv_isub hx hb dX4_remove_64 ?_
      obtain ⟨sz_11, esz_11, hf⟩ := lt_el hf
      refine x_topi esz_11 ?_
      refine x_put hx hb (C := RX4) (T := TX4) (N := 3) (ci := 4) hts iX4 tyX4 tyX4_ok nmX4 hown hK hP hD hS 0 rfl rfl 0 (by decide) wd0 rfl rfl (ty := .int) rfl rfl rfl (Nat.le_of_ble_eq_true rfl) (w' := wX4 cy a0 a1 sz_11 la ce_10) rfl dX4_remove_65 (fun H locs hP hD hS => ?_)
      have hf := Option.some.inj hf
      cases hf
      exact x_vret hx hb hr hlocks hK hP hD hS dX4_remove_68
    · have hf := x_f c_2 hf
      have hf := Option.some.inj hf
      cases hf
      exact x_vret hx hb hr hlocks hK hP hD hS dX4_remove_12
theorem kdX4_countOf : yX4_countOf.cls = RX4 ∧ yX4_countOf.cls ≠ "java/lang/invoke/MethodHandle" ∧ yX4_countOf.cls ≠ "java/lang/invoke/VarHandle" ∧ (parseMethodDescriptor yX4_countOf.desc).map (fun d => d.parameters.length) = some 1 := by decide +kernel
def rmX4_countOf : Room := { frames := 1, cells := 0, slots := 0, locals := 22 }
set_option maxHeartbeats 4000000 in
set_option maxRecDepth 100000 in
theorem mX4_countOf (l : Launch) (D : va_G) (cy : Nat → ClassId) (a0 a1 : Nat) (sz : Int32) (la : Int32) (ce : Nat → Int32) (p1 : Int32) (r : Int32) (hf : fX4_countOf sz ce p1 = some r) : xMi l D cy yX4_countOf aX4_countOf rmX4_countOf ([.ref a0, .int p1] : List Value) (wX4 cy a0 a1 sz la ce) (wX4 cy a0 a1 sz la ce) r := by
  intro hz
  refine x_start (Qc := xQi D cy _ r) (cc := cX4_countOf) (maxL := 4) (ret := (some .int)) (by decide) rfl (Nat.le_of_ble_eq_true rfl) (lv := [(0, .ref a0), (1, .int p1)]) rfl ?_
  intro p e s m below meth c ls A hx hb hr hml hown hts hlocks hK hP hD hS hA hN hl
  have hown : s.vm.findClass RX4 = some m.cls := hown
  have hbg : ∀ w ∈ wsL_law, w ∈ aX4_countOf := fun w h => List.mem_cons_of_mem _ h
  have wd0 : (Cond.fieldLink RX4 9 "ClientMoneyBook$Rows" "size" "I").before ([.ref a0, .int p1] : List Value).toArray s = true := hts _ (List.mem_cons_of_mem _ wm_3_3)
  have iX4 : ∀ w ∈ u_ws RX4 TX4 3, w ∈ aX4_countOf := fun w h => List.mem_cons_of_mem _ (inlX4 w h)
  unfold fX4_countOf at hf
  refine lv_iconst (v := 0) hx hb dX4_countOf_0 (by decide) ?_
  refine lv_istore_n (lv' := [(2, .int 0), (0, .ref a0), (1, .int p1)]) hx hb dX4_countOf_1 rfl hl (by decide) rfl (fun ls hl => ?_)
  refine lv_iconst (v := 0) hx hb dX4_countOf_2 (by decide) ?_
  refine lv_istore_n (lv' := [(3, .int 0), (2, .int 0), (0, .ref a0), (1, .int p1)]) hx hb dX4_countOf_3 rfl hl (by decide) rfl (fun ls hl => ?_)
  have hL_4 : ∀ (n : Nat) (z2_6 : Int32) (z3_7 : Int32) (o : Int32) (H : Heap) (locs : List Loc) (ls : Array Slot), fX4_countOf_L4 sz ce p1 n z2_6 z3_7 = some o → va_P D vwCl (wX4 cy a0 a1 sz la ce) H → va_D A (wX4 cy a0 a1 sz la ce) → va_S A s.heap H locs → lv_has ls 4 [(0, .ref a0), (1, .int p1), (2, .int z2_6), (3, .int z3_7)] → True → ((∀ (x2_8 : Int32) , o = x2_8 → ∀ (H : Heap) (locs : List Loc) (ls : Array Slot), va_P D vwCl (wX4 cy a0 a1 sz la ce) H → va_D A (wX4 cy a0 a1 sz la ce) → va_S A s.heap H locs → lv_has ls 4 [(2, .int x2_8)] →  W p l e rmX4_countOf s m ([.ref a0, .int p1] : List Value).toArray below meth c H locs 0 0 (MQ below (xQi D cy (wX4 cy a0 a1 sz la ce) r A) ([.ref a0, .int p1] : List Value).toArray s 0 0 A) (F0 m 31 ls []))) → W p l e rmX4_countOf s m ([.ref a0, .int p1] : List Value).toArray below meth c H locs 0 0 (MQ below (xQi D cy (wX4 cy a0 a1 sz la ce) r A) ([.ref a0, .int p1] : List Value).toArray s 0 0 A) (F0 m 4 ls []) := by
    intro n
    induction n with
    | zero =>
      intro z2_6 z3_7 o_4 H locs ls hf
      rw [fX4_countOf_L4] at hf
      cases hf
    | succ n ih =>
      intro z2_6 z3_7 o_4 H locs ls hf hP hD hS hl hr_4 kx_4
      rw [fX4_countOf_L4] at hf
      refine lv_iload_n hx hb dX4_countOf_4 rfl (lv_at hl 3 rfl) ?_
      refine lv_aload_n hx hb dX4_countOf_5 rfl (lv_at hl 0 rfl) ?_
      refine x_get hx hb (C := RX4) (T := TX4) (N := 3) (ci := 4) hts iX4 hown hK hP 0 rfl rfl 0 (by decide) wd0 rfl (.int sz) rfl dX4_countOf_6 ?_
      refine lv_icmp_ge (tgt := 31) hx hb dX4_countOf_9 (by decide) (fun c_9 => ?_) (fun c_9 => ?_)
      · have hf := x_t c_9 hf
        exact kx_4 z2_6 (Option.some.inj hf).symm _ _ _ hP hD hS (lv_sub hl [2] rfl)
      · have hf := x_f c_9 hf
        refine lv_aload_n hx hb dX4_countOf_12 rfl (lv_at hl 0 rfl) ?_
        refine lv_iload_n hx hb dX4_countOf_13 rfl (lv_at hl 3 rfl) ?_
        refine lv_iconst (v := 1) hx hb dX4_countOf_14 (by decide) ?_
        obtain ⟨r_10, h_11, hf⟩ := bd1_el hf
        refine x_callVi (As := [.int z3_7, .int 1]) (rest := []) ⟨hx, hb, hml, hown, hts⟩ (mX4_get l D cy a0 a1 sz la ce z3_7 1 r_10 h_11) (cwV 2 hts (gcV_X4_get hbg wm_11_6) rfl rfl rfl kdX4_get ⟨Nat.le_of_ble_eq_true rfl, Nat.le_of_ble_eq_true rfl⟩) (w1 := []) (w2 := []) (w' := wX4 cy a0 a1 sz la ce) (List.append_nil _) (List.append_nil _) hP hK hD hN hS hA (q0 := 0) rfl rfl rfl rfl hl rfl (Nat.le_of_ble_eq_true rfl) dX4_countOf_15 ⟨Nat.zero_le _, Nat.zero_le _⟩ (fun H locs hP hD hS => ?_)
        refine lv_iload_n hx hb dX4_countOf_18 rfl (lv_at hl 1 rfl) ?_
        refine lv_icmp_ne (tgt := 25) hx hb dX4_countOf_19 (by decide) (fun c_12 => ?_) (fun c_12 => ?_)
        · have hf := x_f c_12 hf
          refine lv_iinc (v := (z3_7 + 1)) (lv' := [(3, .int (z3_7 + 1)), (0, .ref a0), (1, .int p1), (2, .int z2_6)]) hx hb dX4_countOf_25 hl (k := 3) rfl rfl (by decide) rfl (fun ls hl => ?_)
          refine lv_goto (tgt := 4) hx hb dX4_countOf_28 (by decide) ?_
          exact ih z2_6 (z3_7 + 1) _ _ _ _ hf hP hD hS (lv_sub hl [1, 2, 3, 0] rfl) hr_4 kx_4
        · have hf := x_t c_12 hf
          refine lv_iinc (v := (z2_6 + 1)) (lv' := [(2, .int (z2_6 + 1)), (0, .ref a0), (1, .int p1), (3, .int z3_7)]) hx hb dX4_countOf_22 hl (k := 2) rfl rfl (by decide) rfl (fun ls hl => ?_)
          refine lv_iinc (v := (z3_7 + 1)) (lv' := [(3, .int (z3_7 + 1)), (2, .int (z2_6 + 1)), (0, .ref a0), (1, .int p1)]) hx hb dX4_countOf_25 hl (k := 3) rfl rfl (by decide) rfl (fun ls hl => ?_)
          refine lv_goto (tgt := 4) hx hb dX4_countOf_28 (by decide) ?_
          exact ih (z2_6 + 1) (z3_7 + 1) _ _ _ _ hf hP hD hS (lv_sub hl [2, 3, 1, 0] rfl) hr_4 kx_4
  obtain ⟨x2_5, h1_4, hf⟩ := bd1_el hf
  refine hL_4 2147483648 0 0 _ _ _ _ h1_4 hP hD hS (lv_sub hl [2, 3, 1, 0] rfl) trivial (fun x2_59 ho H locs ls hP hD hS hl => ?_)
  cases ho
  refine lv_iload_n hx hb dX4_countOf_31 rfl (lv_at hl 0 rfl) ?_
  have hf := Option.some.inj hf
  cases hf
  exact x_iret hx hb hr hlocks hK hP hD hS dX4_countOf_32
theorem kdX4_sumOfAll : yX4_sumOfAll.cls = RX4 ∧ yX4_sumOfAll.cls ≠ "java/lang/invoke/MethodHandle" ∧ yX4_sumOfAll.cls ≠ "java/lang/invoke/VarHandle" ∧ (parseMethodDescriptor yX4_sumOfAll.desc).map (fun d => d.parameters.length) = some 1 := by decide +kernel
def rmX4_sumOfAll : Room := { frames := 1, cells := 0, slots := 0, locals := 22 }
set_option maxHeartbeats 4000000 in
set_option maxRecDepth 100000 in
theorem mX4_sumOfAll (l : Launch) (D : va_G) (cy : Nat → ClassId) (a0 a1 : Nat) (sz : Int32) (la : Int32) (ce : Nat → Int32) (p1 : Int32) (r : Int64) (hf : fX4_sumOfAll sz ce p1 = some r) : xMl l D cy yX4_sumOfAll aX4_sumOfAll rmX4_sumOfAll ([.ref a0, .int p1] : List Value) (wX4 cy a0 a1 sz la ce) (wX4 cy a0 a1 sz la ce) r := by
  intro hz
  refine x_start (Qc := xQl D cy _ r) (cc := cX4_sumOfAll) (maxL := 5) (ret := (some .long)) (by decide) rfl (Nat.le_of_ble_eq_true rfl) (lv := [(0, .ref a0), (1, .int p1)]) rfl ?_
  intro p e s m below meth c ls A hx hb hr hml hown hts hlocks hK hP hD hS hA hN hl
  have hown : s.vm.findClass RX4 = some m.cls := hown
  have hbg : ∀ w ∈ wsL_law, w ∈ aX4_sumOfAll := fun w h => List.mem_cons_of_mem _ h
  have wd0 : (Cond.fieldLink RX4 9 "ClientMoneyBook$Rows" "size" "I").before ([.ref a0, .int p1] : List Value).toArray s = true := hts _ (List.mem_cons_of_mem _ wm_3_3)
  have iX4 : ∀ w ∈ u_ws RX4 TX4 3, w ∈ aX4_sumOfAll := fun w h => List.mem_cons_of_mem _ (inlX4 w h)
  unfold fX4_sumOfAll at hf
  refine lv_lconst (v := 0) hx hb dX4_sumOfAll_0 (by decide) ?_
  refine lv_lstore_n (lv' := [(2, .long 0), (0, .ref a0), (1, .int p1)]) hx hb dX4_sumOfAll_1 rfl hl (by decide) rfl (fun ls hl => ?_)
  refine lv_iconst (v := 0) hx hb dX4_sumOfAll_2 (by decide) ?_
  refine lv_istore (lv' := [(4, .int 0), (2, .long 0), (0, .ref a0), (1, .int p1)]) hx hb dX4_sumOfAll_3 hl (by decide) rfl (fun ls hl => ?_)
  have hL_5 : ∀ (n : Nat) (z2_6 : Int64) (z4_7 : Int32) (o : Int64) (H : Heap) (locs : List Loc) (ls : Array Slot), fX4_sumOfAll_L5 sz ce p1 n z2_6 z4_7 = some o → va_P D vwCl (wX4 cy a0 a1 sz la ce) H → va_D A (wX4 cy a0 a1 sz la ce) → va_S A s.heap H locs → lv_has ls 5 [(0, .ref a0), (1, .int p1), (2, .long z2_6), (4, .int z4_7)] → True → ((∀ (x2_8 : Int64) , o = x2_8 → ∀ (H : Heap) (locs : List Loc) (ls : Array Slot), va_P D vwCl (wX4 cy a0 a1 sz la ce) H → va_D A (wX4 cy a0 a1 sz la ce) → va_S A s.heap H locs → lv_has ls 5 [(2, .long x2_8)] →  W p l e rmX4_sumOfAll s m ([.ref a0, .int p1] : List Value).toArray below meth c H locs 0 0 (MQ below (xQl D cy (wX4 cy a0 a1 sz la ce) r A) ([.ref a0, .int p1] : List Value).toArray s 0 0 A) (F0 m 31 ls []))) → W p l e rmX4_sumOfAll s m ([.ref a0, .int p1] : List Value).toArray below meth c H locs 0 0 (MQ below (xQl D cy (wX4 cy a0 a1 sz la ce) r A) ([.ref a0, .int p1] : List Value).toArray s 0 0 A) (F0 m 5 ls []) := by
    intro n
    induction n with
    | zero =>
      intro z2_6 z4_7 o_5 H locs ls hf
      rw [fX4_sumOfAll_L5] at hf
      cases hf
    | succ n ih =>
      intro z2_6 z4_7 o_5 H locs ls hf hP hD hS hl hr_5 kx_5
      rw [fX4_sumOfAll_L5] at hf
      refine lv_iload hx hb dX4_sumOfAll_5 (lv_at hl 3 rfl) ?_
      refine lv_aload_n hx hb dX4_sumOfAll_7 rfl (lv_at hl 0 rfl) ?_
      refine x_get hx hb (C := RX4) (T := TX4) (N := 3) (ci := 4) hts iX4 hown hK hP 0 rfl rfl 0 (by decide) wd0 rfl (.int sz) rfl dX4_sumOfAll_8 ?_
      refine lv_icmp_ge (tgt := 31) hx hb dX4_sumOfAll_11 (by decide) (fun c_9 => ?_) (fun c_9 => ?_)
      · have hf := x_t c_9 hf
        exact kx_5 z2_6 (Option.some.inj hf).symm _ _ _ hP hD hS (lv_sub hl [2] rfl)
      · have hf := x_f c_9 hf
        refine lv_lload_n hx hb dX4_sumOfAll_14 rfl (lv_at hl 2 rfl) ?_
        refine lv_aload_n hx hb dX4_sumOfAll_15 rfl (lv_at hl 0 rfl) ?_
        refine lv_iload hx hb dX4_sumOfAll_16 (lv_at hl 3 rfl) ?_
        refine lv_iload_n hx hb dX4_sumOfAll_18 rfl (lv_at hl 1 rfl) ?_
        obtain ⟨r_10, h_11, hf⟩ := bd1_el hf
        refine x_callVi (As := [.int z4_7, .int p1]) (rest := [.long z2_6]) ⟨hx, hb, hml, hown, hts⟩ (mX4_get l D cy a0 a1 sz la ce z4_7 p1 r_10 h_11) (cwV 2 hts (gcV_X4_get hbg wm_11_6) rfl rfl rfl kdX4_get ⟨Nat.le_of_ble_eq_true rfl, Nat.le_of_ble_eq_true rfl⟩) (w1 := []) (w2 := []) (w' := wX4 cy a0 a1 sz la ce) (List.append_nil _) (List.append_nil _) hP hK hD hN hS hA (q0 := 0) rfl rfl rfl rfl hl rfl (Nat.le_of_ble_eq_true rfl) dX4_sumOfAll_19 ⟨Nat.zero_le _, Nat.zero_le _⟩ (fun H locs hP hD hS => ?_)
        refine lv_i2l (v := r_10.toInt64) hx hb dX4_sumOfAll_22 rfl ?_
        refine lv_ladd hx hb dX4_sumOfAll_23 ?_
        obtain ⟨x2_12, ex2_12, hf⟩ := lt_el hf
        refine x_topl ex2_12 ?_
        refine lv_lstore_n (lv' := [(2, .long x2_12), (0, .ref a0), (1, .int p1), (4, .int z4_7)]) hx hb dX4_sumOfAll_24 rfl hl (by decide) rfl (fun ls hl => ?_)
        refine lv_iinc (v := (z4_7 + 1)) (lv' := [(4, .int (z4_7 + 1)), (2, .long x2_12), (0, .ref a0), (1, .int p1)]) hx hb dX4_sumOfAll_25 hl (k := 3) rfl rfl (by decide) rfl (fun ls hl => ?_)
        refine lv_goto (tgt := 5) hx hb dX4_sumOfAll_28 (by decide) ?_
        exact ih x2_12 (z4_7 + 1) _ _ _ _ hf hP hD hS (lv_sub hl [2, 3, 1, 0] rfl) hr_5 kx_5
  obtain ⟨x2_5, h1_5, hf⟩ := bd1_el hf
  refine hL_5 2147483648 0 0 _ _ _ _ h1_5 hP hD hS (lv_sub hl [2, 3, 1, 0] rfl) trivial (fun x2_59 ho H locs ls hP hD hS hl => ?_)
  cases ho
  refine lv_lload_n hx hb dX4_sumOfAll_31 rfl (lv_at hl 0 rfl) ?_
  have hf := Option.some.inj hf
  cases hf
  exact x_lret hx hb hr hlocks hK hP hD hS dX4_sumOfAll_32
theorem kdX6_cellOf : yX6_cellOf.cls ≠ "java/lang/invoke/MethodHandle" ∧ yX6_cellOf.cls ≠ "java/lang/invoke/VarHandle" ∧ (parseMethodDescriptor yX6_cellOf.desc).map (fun d => d.parameters.length) = some 2 := by decide +kernel
def rmX6_cellOf : Room := { frames := 0, cells := 0, slots := 0, locals := 0 }
set_option maxHeartbeats 4000000 in
set_option maxRecDepth 100000 in
theorem mX6_cellOf (l : Launch) (D : va_G) (cy : Nat → ClassId)  (p1 : Int32) (p2 : Int32) (r : Int32) (hf : fX6_cellOf p1 p2 = some r) : xMi l D cy yX6_cellOf aX6_cellOf rmX6_cellOf ([.int p1, .int p2] : List Value) ([]) ([]) r := by
  intro hz
  refine x_start (Qc := xQi D cy _ r) (cc := cX6_cellOf) (maxL := 2) (ret := (some .int)) (by decide) rfl (Nat.le_of_ble_eq_true rfl) (lv := [(0, .int p1), (1, .int p2)]) rfl ?_
  intro p e s m below meth c ls A hx hb hr hml hown hts hlocks hK hP hD hS hA hN hl
  have hown : s.vm.findClass RX6 = some m.cls := hown
  have hbg : ∀ w ∈ wsL_law, w ∈ aX6_cellOf := fun w h => List.mem_cons_of_mem _ h
  unfold fX6_cellOf at hf
  refine lv_iload_n hx hb dX6_cellOf_0 rfl (lv_at hl 0 rfl) ?_
  refine lv_bipush (v := 24) hx hb dX6_cellOf_1 (by decide) ?_
  refine lv_irem hx hb dX6_cellOf_3 (by decide) ?_
  refine lv_bipush (v := 7) hx hb dX6_cellOf_4 (by decide) ?_
  refine lv_imul hx hb dX6_cellOf_6 ?_
  refine lv_iload_n hx hb dX6_cellOf_7 rfl (lv_at hl 1 rfl) ?_
  refine lv_iadd hx hb dX6_cellOf_8 ?_
  have hf := Option.some.inj hf
  cases hf
  exact x_iret hx hb hr hlocks hK hP hD hS dX6_cellOf_9
theorem kdX6_set : yX6_set.cls = RX6 ∧ yX6_set.cls ≠ "java/lang/invoke/MethodHandle" ∧ yX6_set.cls ≠ "java/lang/invoke/VarHandle" ∧ (parseMethodDescriptor yX6_set.desc).map (fun d => d.parameters.length) = some 3 := by decide +kernel
def rmX6_set : Room := { frames := 1, cells := 0, slots := 0, locals := 21 }
set_option maxHeartbeats 4000000 in
set_option maxRecDepth 100000 in
theorem mX6_set (l : Launch) (D : va_G) (cy : Nat → ClassId) (a0 a1 : Nat) (ma : Int32) (lc : Int32) (tc : Nat → Int32) (p1 : Int32) (p2 : Int32) (p3 : Int32) (tc' : Nat → Int32) (hf : fX6_set tc p1 p2 p3 = some tc') : xMv l D cy yX6_set aX6_set rmX6_set ([.ref a0, .int p1, .int p2, .int p3] : List Value) (wX6 cy a0 a1 ma lc tc) (wX6 cy a0 a1 ma lc tc') := by
  intro hz
  refine x_start (Qc := xQv D cy _) (cc := cX6_set) (maxL := 5) (ret := none) (by decide) rfl (Nat.le_of_ble_eq_true rfl) (lv := [(0, .ref a0), (1, .int p1), (2, .int p2), (3, .int p3)]) rfl ?_
  intro p e s m below meth c ls A hx hb hr hml hown hts hlocks hK hP hD hS hA hN hl
  have hown : s.vm.findClass RX6 = some m.cls := hown
  have hbg : ∀ w ∈ wsL_law, w ∈ aX6_set := fun w h => List.mem_cons_of_mem _ h
  have wd0 : (Cond.fieldLink RX6 18 "ClientMoneyBook$Trail" "cells" "[I").before ([.ref a0, .int p1, .int p2, .int p3] : List Value).toArray s = true := hts _ (List.mem_cons_of_mem _ wm_3_11)
  have iX6 : ∀ w ∈ u_ws RX6 TX6 3, w ∈ aX6_set := fun w h => List.mem_cons_of_mem _ (inlX6 w h)
  unfold fX6_set at hf
  refine lv_iload_n hx hb dX6_set_0 rfl (lv_at hl 1 rfl) ?_
  refine lv_iload_n hx hb dX6_set_1 rfl (lv_at hl 2 rfl) ?_
  obtain ⟨r_1, h_2, hf⟩ := bd1_el hf
  refine x_callSi (As := [.int p1, .int p2]) (rest := []) ⟨hx, hb, hml, hown, hts⟩ (mX6_cellOf l D cy   p1 p2 r_1 h_2) (va_cwS 2 hts (gcS_X6_cellOf hbg wm_9_15) rfl rfl rfl kdX6_cellOf ⟨Nat.le_of_ble_eq_true rfl, Nat.le_of_ble_eq_true rfl⟩) (w1 := []) (w2 := wX6 cy a0 a1 ma lc tc) (w' := wX6 cy a0 a1 ma lc tc) rfl rfl hP hK hD hN hS hA rfl hl rfl (Nat.le_of_ble_eq_true rfl) dX6_set_2 ⟨Nat.zero_le _, Nat.zero_le _⟩ (fun H locs hP hD hS => ?_)
  refine lv_istore (lv' := [(4, .int r_1), (0, .ref a0), (1, .int p1), (2, .int p2), (3, .int p3)]) hx hb dX6_set_5 hl (by decide) rfl (fun ls hl => ?_)
  refine lv_iload hx hb dX6_set_7 (lv_at hl 0 rfl) ?_
  refine lv_if_lt (tgt := 30) hx hb dX6_set_9 (by decide) (fun c_3 => ?_) (fun c_3 => ?_)
  · have hf := x_t c_3 hf
    have hf := Option.some.inj hf
    cases hf
    exact x_vret hx hb hr hlocks hK hP hD hS dX6_set_30
  · have hf := x_f c_3 hf
    refine lv_iload hx hb dX6_set_12 (lv_at hl 0 rfl) ?_
    refine lv_aload_n hx hb dX6_set_14 rfl (lv_at hl 1 rfl) ?_
    refine x_get hx hb (C := RX6) (T := TX6) (N := 3) (ci := 6) hts iX6 hown hK hP 0 rfl rfl 2 (by decide) wd0 rfl (.ref a1) rfl dX6_set_15 ?_
    refine va_alen (v := 168) hx hb hK hP 1 1 rfl rfl rfl dX6_set_18 ?_
    refine lv_icmp_ge (tgt := 30) hx hb dX6_set_19 (by decide) (fun c_4 => ?_) (fun c_4 => ?_)
    · have hf := x_t c_4 hf
      have hf := Option.some.inj hf
      cases hf
      exact x_vret hx hb hr hlocks hK hP hD hS dX6_set_30
    · have hf := x_f c_4 hf
      refine lv_aload_n hx hb dX6_set_22 rfl (lv_at hl 1 rfl) ?_
      refine x_get hx hb (C := RX6) (T := TX6) (N := 3) (ci := 6) hts iX6 hown hK hP 0 rfl rfl 2 (by decide) wd0 rfl (.ref a1) rfl dX6_set_23 ?_
      refine lv_iload hx hb dX6_set_26 (lv_at hl 0 rfl) ?_
      refine lv_iload_n hx hb dX6_set_28 rfl (lv_at hl 4 rfl) ?_
      obtain ⟨hi_5, hf⟩ := ckI_el hf
      obtain ⟨tc_6, etc_6, hf⟩ := lt_el hf
      refine x_iast hx hb hK hP hD hS 1 rfl hi_5 etc_6 (w' := wX6 cy a0 a1 ma lc tc_6) rfl dX6_set_29 (fun H locs hP hD hS => ?_)
      have hf := Option.some.inj hf
      cases hf
      exact x_vret hx hb hr hlocks hK hP hD hS dX6_set_30
theorem kdX6_append : yX6_append.cls = RX6 ∧ yX6_append.cls ≠ "java/lang/invoke/MethodHandle" ∧ yX6_append.cls ≠ "java/lang/invoke/VarHandle" ∧ (parseMethodDescriptor yX6_append.desc).map (fun d => d.parameters.length) = some 5 := by decide +kernel
def rmX6_append : Room := { frames := 2, cells := 0, slots := 0, locals := 45 }
set_option maxHeartbeats 4000000 in
set_option maxRecDepth 100000 in
theorem mX6_append (l : Launch) (D : va_G) (cy : Nat → ClassId) (a0 a1 : Nat) (ma : Int32) (lc : Int32) (tc : Nat → Int32) (p1 : Int32) (p2 : Int32) (p3 : Int32) (p4 : Int32) (p5 : Int32) (ma' : Int32) (lc' : Int32) (tc' : Nat → Int32) (hf : fX6_append ma lc tc p1 p2 p3 p4 p5 = some (ma', lc', tc')) : xMv l D cy yX6_append aX6_append rmX6_append ([.ref a0, .int p1, .int p2, .int p3, .int p4, .int p5] : List Value) (wX6 cy a0 a1 ma lc tc) (wX6 cy a0 a1 ma' lc' tc') := by
  intro hz
  refine x_start (Qc := xQv D cy _) (cc := cX6_append) (maxL := 8) (ret := none) (by decide) rfl (Nat.le_of_ble_eq_true rfl) (lv := [(0, .ref a0), (1, .int p1), (2, .int p2), (3, .int p3), (4, .int p4), (5, .int p5)]) rfl ?_
  intro p e s m below meth c ls A hx hb hr hml hown hts hlocks hK hP hD hS hA hN hl
  have hown : s.vm.findClass RX6 = some m.cls := hown
  have hbg : ∀ w ∈ wsL_law, w ∈ aX6_append := fun w h => List.mem_cons_of_mem _ h
  have wd0 : (Cond.fieldLink RX6 15 "ClientMoneyBook$Trail" "latestCheck" "I").before ([.ref a0, .int p1, .int p2, .int p3, .int p4, .int p5] : List Value).toArray s = true := hts _ (List.mem_cons_of_mem _ wm_3_10)
  have wd1 : (Cond.constantLong RX6 40 (1009)).before ([.ref a0, .int p1, .int p2, .int p3, .int p4, .int p5] : List Value).toArray s = true := hts _ (List.mem_cons_of_mem _ wm_9_5)
  have wd2 : (Cond.constantLong RX6 42 (31)).before ([.ref a0, .int p1, .int p2, .int p3, .int p4, .int p5] : List Value).toArray s = true := hts _ (List.mem_cons_of_mem _ wm_9_6)
  have wd3 : (Cond.constantLong RX6 44 (17)).before ([.ref a0, .int p1, .int p2, .int p3, .int p4, .int p5] : List Value).toArray s = true := hts _ (List.mem_cons_of_mem _ wm_9_7)
  have wd4 : (Cond.constantLong RX6 46 (101)).before ([.ref a0, .int p1, .int p2, .int p3, .int p4, .int p5] : List Value).toArray s = true := hts _ (List.mem_cons_of_mem _ wm_9_8)
  have wd5 : (Cond.constantLong RX6 48 (103)).before ([.ref a0, .int p1, .int p2, .int p3, .int p4, .int p5] : List Value).toArray s = true := hts _ (List.mem_cons_of_mem _ wm_9_9)
  have wd6 : (Cond.constantLong RX6 50 (1000003)).before ([.ref a0, .int p1, .int p2, .int p3, .int p4, .int p5] : List Value).toArray s = true := hts _ (List.mem_cons_of_mem _ wm_9_10)
  have wd7 : (Cond.fieldLink RX6 9 "ClientMoneyBook$Trail" "made" "I").before ([.ref a0, .int p1, .int p2, .int p3, .int p4, .int p5] : List Value).toArray s = true := hts _ (List.mem_cons_of_mem _ wm_3_9)
  have iX6 : ∀ w ∈ u_ws RX6 TX6 3, w ∈ aX6_append := fun w h => List.mem_cons_of_mem _ (inlX6 w h)
  unfold fX6_append at hf
  refine lv_aload_n hx hb dX6_append_0 rfl (lv_at hl 0 rfl) ?_
  refine x_get hx hb (C := RX6) (T := TX6) (N := 3) (ci := 6) hts iX6 hown hK hP 0 rfl rfl 1 (by decide) wd0 rfl (.int lc) rfl dX6_append_1 ?_
  refine lv_i2l (v := lc.toInt64) hx hb dX6_append_4 rfl ?_
  refine lv_ldc2 hx hb hown wd1 dX6_append_5 ?_
  refine lv_lmul hx hb dX6_append_8 ?_
  refine lv_iload_n hx hb dX6_append_9 rfl (lv_at hl 1 rfl) ?_
  refine lv_i2l (v := p1.toInt64) hx hb dX6_append_10 rfl ?_
  refine lv_ldc2 hx hb hown wd2 dX6_append_11 ?_
  refine lv_lmul hx hb dX6_append_14 ?_
  refine lv_ladd hx hb dX6_append_15 ?_
  refine lv_iload_n hx hb dX6_append_16 rfl (lv_at hl 2 rfl) ?_
  refine lv_i2l (v := p2.toInt64) hx hb dX6_append_17 rfl ?_
  refine lv_ldc2 hx hb hown wd3 dX6_append_18 ?_
  refine lv_lmul hx hb dX6_append_21 ?_
  refine lv_ladd hx hb dX6_append_22 ?_
  refine lv_iload_n hx hb dX6_append_23 rfl (lv_at hl 3 rfl) ?_
  refine lv_i2l (v := p3.toInt64) hx hb dX6_append_24 rfl ?_
  refine lv_ldc2 hx hb hown wd4 dX6_append_25 ?_
  refine lv_lmul hx hb dX6_append_28 ?_
  refine lv_ladd hx hb dX6_append_29 ?_
  refine lv_iload hx hb dX6_append_30 (lv_at hl 4 rfl) ?_
  refine lv_i2l (v := p4.toInt64) hx hb dX6_append_32 rfl ?_
  refine lv_ldc2 hx hb hown wd5 dX6_append_33 ?_
  refine lv_lmul hx hb dX6_append_36 ?_
  refine lv_ladd hx hb dX6_append_37 ?_
  refine lv_iload hx hb dX6_append_38 (lv_at hl 5 rfl) ?_
  refine lv_i2l (v := p5.toInt64) hx hb dX6_append_40 rfl ?_
  refine lv_ladd hx hb dX6_append_41 ?_
  refine lv_ldc2 hx hb hown wd6 dX6_append_42 ?_
  refine lv_lrem hx hb dX6_append_45 (by decide) ?_
  obtain ⟨x6_1, ex6_1, hf⟩ := lt_el hf
  refine x_topl ex6_1 ?_
  refine lv_lstore (lv' := [(6, .long x6_1), (0, .ref a0), (1, .int p1), (2, .int p2), (3, .int p3), (4, .int p4), (5, .int p5)]) hx hb dX6_append_46 hl (by decide) rfl (fun ls hl => ?_)
  refine lv_aload_n hx hb dX6_append_48 rfl (lv_at hl 1 rfl) ?_
  refine lv_lload hx hb dX6_append_49 (lv_at hl 0 rfl) ?_
  refine lv_l2i (v := x6_1.toInt32) hx hb dX6_append_51 rfl ?_
  refine x_put hx hb (C := RX6) (T := TX6) (N := 3) (ci := 6) hts iX6 tyX6 tyX6_ok nmX6 hown hK hP hD hS 0 rfl rfl 1 (by decide) wd0 rfl rfl (ty := .int) rfl rfl rfl (Nat.le_of_ble_eq_true rfl) (w' := wX6 cy a0 a1 ma x6_1.toInt32 tc) rfl dX6_append_52 (fun H locs hP hD hS => ?_)
  refine lv_aload_n hx hb dX6_append_55 rfl (lv_at hl 1 rfl) ?_
  refine lv_dup hx hb dX6_append_56 rfl ?_
  refine x_get hx hb (C := RX6) (T := TX6) (N := 3) (ci := 6) hts iX6 hown hK hP 0 rfl rfl 0 (by decide) wd7 rfl (.int ma) rfl dX6_append_57 ?_
  refine lv_iconst (v := 1) hx hb dX6_append_60 (by decide) ?_
  refine lv_iadd hx hb dX6_append_61 ?_
  obtain ⟨ma_2, ema_2, hf⟩ := lt_el hf
  refine x_topi ema_2 ?_
  refine x_put hx hb (C := RX6) (T := TX6) (N := 3) (ci := 6) hts iX6 tyX6 tyX6_ok nmX6 hown hK hP hD hS 0 rfl rfl 0 (by decide) wd7 rfl rfl (ty := .int) rfl rfl rfl (Nat.le_of_ble_eq_true rfl) (w' := wX6 cy a0 a1 ma_2 x6_1.toInt32 tc) rfl dX6_append_62 (fun H locs hP hD hS => ?_)
  refine lv_aload_n hx hb dX6_append_65 rfl (lv_at hl 1 rfl) ?_
  refine lv_aload_n hx hb dX6_append_66 rfl (lv_at hl 1 rfl) ?_
  refine x_get hx hb (C := RX6) (T := TX6) (N := 3) (ci := 6) hts iX6 hown hK hP 0 rfl rfl 0 (by decide) wd7 rfl (.int ma_2) rfl dX6_append_67 ?_
  refine lv_iconst (v := 0) hx hb dX6_append_70 (by decide) ?_
  refine lv_iload_n hx hb dX6_append_71 rfl (lv_at hl 2 rfl) ?_
  obtain ⟨tc_3, h_4, hf⟩ := bd1_el hf
  refine x_callVv (As := [.int ma_2, .int 0, .int p1]) (rest := []) ⟨hx, hb, hml, hown, hts⟩ (mX6_set l D cy a0 a1 ma_2 x6_1.toInt32 tc ma_2 0 p1 tc_3 h_4) (cwV 3 hts (gcV_X6_set hbg wm_9_11) rfl rfl rfl kdX6_set ⟨Nat.le_of_ble_eq_true rfl, Nat.le_of_ble_eq_true rfl⟩) (w1 := []) (w2 := []) (w' := wX6 cy a0 a1 ma_2 x6_1.toInt32 tc_3) (List.append_nil _) (List.append_nil _) hP hK hD hN hS hA (q0 := 0) rfl rfl rfl rfl hl rfl (Nat.le_of_ble_eq_true rfl) dX6_append_72 ⟨Nat.zero_le _, Nat.zero_le _⟩ (fun H locs hP hD hS => ?_)
  refine lv_aload_n hx hb dX6_append_75 rfl (lv_at hl 1 rfl) ?_
  refine lv_aload_n hx hb dX6_append_76 rfl (lv_at hl 1 rfl) ?_
  refine x_get hx hb (C := RX6) (T := TX6) (N := 3) (ci := 6) hts iX6 hown hK hP 0 rfl rfl 0 (by decide) wd7 rfl (.int ma_2) rfl dX6_append_77 ?_
  refine lv_iconst (v := 1) hx hb dX6_append_80 (by decide) ?_
  refine lv_iload_n hx hb dX6_append_81 rfl (lv_at hl 3 rfl) ?_
  obtain ⟨tc_5, h_6, hf⟩ := bd1_el hf
  refine x_callVv (As := [.int ma_2, .int 1, .int p2]) (rest := []) ⟨hx, hb, hml, hown, hts⟩ (mX6_set l D cy a0 a1 ma_2 x6_1.toInt32 tc_3 ma_2 1 p2 tc_5 h_6) (cwV 3 hts (gcV_X6_set hbg wm_9_11) rfl rfl rfl kdX6_set ⟨Nat.le_of_ble_eq_true rfl, Nat.le_of_ble_eq_true rfl⟩) (w1 := []) (w2 := []) (w' := wX6 cy a0 a1 ma_2 x6_1.toInt32 tc_5) (List.append_nil _) (List.append_nil _) hP hK hD hN hS hA (q0 := 0) rfl rfl rfl rfl hl rfl (Nat.le_of_ble_eq_true rfl) dX6_append_82 ⟨Nat.zero_le _, Nat.zero_le _⟩ (fun H locs hP hD hS => ?_)
  refine lv_aload_n hx hb dX6_append_85 rfl (lv_at hl 1 rfl) ?_
  refine lv_aload_n hx hb dX6_append_86 rfl (lv_at hl 1 rfl) ?_
  refine x_get hx hb (C := RX6) (T := TX6) (N := 3) (ci := 6) hts iX6 hown hK hP 0 rfl rfl 0 (by decide) wd7 rfl (.int ma_2) rfl dX6_append_87 ?_
  refine lv_iconst (v := 2) hx hb dX6_append_90 (by decide) ?_
  refine lv_iload_n hx hb dX6_append_91 rfl (lv_at hl 4 rfl) ?_
  obtain ⟨tc_7, h_8, hf⟩ := bd1_el hf
  refine x_callVv (As := [.int ma_2, .int 2, .int p3]) (rest := []) ⟨hx, hb, hml, hown, hts⟩ (mX6_set l D cy a0 a1 ma_2 x6_1.toInt32 tc_5 ma_2 2 p3 tc_7 h_8) (cwV 3 hts (gcV_X6_set hbg wm_9_11) rfl rfl rfl kdX6_set ⟨Nat.le_of_ble_eq_true rfl, Nat.le_of_ble_eq_true rfl⟩) (w1 := []) (w2 := []) (w' := wX6 cy a0 a1 ma_2 x6_1.toInt32 tc_7) (List.append_nil _) (List.append_nil _) hP hK hD hN hS hA (q0 := 0) rfl rfl rfl rfl hl rfl (Nat.le_of_ble_eq_true rfl) dX6_append_92 ⟨Nat.zero_le _, Nat.zero_le _⟩ (fun H locs hP hD hS => ?_)
  refine lv_aload_n hx hb dX6_append_95 rfl (lv_at hl 1 rfl) ?_
  refine lv_aload_n hx hb dX6_append_96 rfl (lv_at hl 1 rfl) ?_
  refine x_get hx hb (C := RX6) (T := TX6) (N := 3) (ci := 6) hts iX6 hown hK hP 0 rfl rfl 0 (by decide) wd7 rfl (.int ma_2) rfl dX6_append_97 ?_
  refine lv_iconst (v := 3) hx hb dX6_append_100 (by decide) ?_
  refine lv_iload hx hb dX6_append_101 (lv_at hl 5 rfl) ?_
  obtain ⟨tc_9, h_10, hf⟩ := bd1_el hf
  refine x_callVv (As := [.int ma_2, .int 3, .int p4]) (rest := []) ⟨hx, hb, hml, hown, hts⟩ (mX6_set l D cy a0 a1 ma_2 x6_1.toInt32 tc_7 ma_2 3 p4 tc_9 h_10) (cwV 3 hts (gcV_X6_set hbg wm_9_11) rfl rfl rfl kdX6_set ⟨Nat.le_of_ble_eq_true rfl, Nat.le_of_ble_eq_true rfl⟩) (w1 := []) (w2 := []) (w' := wX6 cy a0 a1 ma_2 x6_1.toInt32 tc_9) (List.append_nil _) (List.append_nil _) hP hK hD hN hS hA (q0 := 0) rfl rfl rfl rfl hl rfl (Nat.le_of_ble_eq_true rfl) dX6_append_103 ⟨Nat.zero_le _, Nat.zero_le _⟩ (fun H locs hP hD hS => ?_)
  refine lv_aload_n hx hb dX6_append_106 rfl (lv_at hl 1 rfl) ?_
  refine lv_aload_n hx hb dX6_append_107 rfl (lv_at hl 1 rfl) ?_
  refine x_get hx hb (C := RX6) (T := TX6) (N := 3) (ci := 6) hts iX6 hown hK hP 0 rfl rfl 0 (by decide) wd7 rfl (.int ma_2) rfl dX6_append_108 ?_
  refine lv_iconst (v := 4) hx hb dX6_append_111 (by decide) ?_
  refine lv_iload hx hb dX6_append_112 (lv_at hl 6 rfl) ?_
  obtain ⟨tc_11, h_12, hf⟩ := bd1_el hf
  refine x_callVv (As := [.int ma_2, .int 4, .int p5]) (rest := []) ⟨hx, hb, hml, hown, hts⟩ (mX6_set l D cy a0 a1 ma_2 x6_1.toInt32 tc_9 ma_2 4 p5 tc_11 h_12) (cwV 3 hts (gcV_X6_set hbg wm_9_11) rfl rfl rfl kdX6_set ⟨Nat.le_of_ble_eq_true rfl, Nat.le_of_ble_eq_true rfl⟩) (w1 := []) (w2 := []) (w' := wX6 cy a0 a1 ma_2 x6_1.toInt32 tc_11) (List.append_nil _) (List.append_nil _) hP hK hD hN hS hA (q0 := 0) rfl rfl rfl rfl hl rfl (Nat.le_of_ble_eq_true rfl) dX6_append_114 ⟨Nat.zero_le _, Nat.zero_le _⟩ (fun H locs hP hD hS => ?_)
  refine lv_aload_n hx hb dX6_append_117 rfl (lv_at hl 1 rfl) ?_
  refine lv_aload_n hx hb dX6_append_118 rfl (lv_at hl 1 rfl) ?_
  refine x_get hx hb (C := RX6) (T := TX6) (N := 3) (ci := 6) hts iX6 hown hK hP 0 rfl rfl 0 (by decide) wd7 rfl (.int ma_2) rfl dX6_append_119 ?_
  refine lv_iconst (v := 5) hx hb dX6_append_122 (by decide) ?_
  refine lv_aload_n hx hb dX6_append_123 rfl (lv_at hl 1 rfl) ?_
  refine x_get hx hb (C := RX6) (T := TX6) (N := 3) (ci := 6) hts iX6 hown hK hP 0 rfl rfl 1 (by decide) wd0 rfl (.int x6_1.toInt32) rfl dX6_append_124 ?_
  obtain ⟨tc_13, h_14, hf⟩ := bd1_el hf
  refine x_callVv (As := [.int ma_2, .int 5, .int x6_1.toInt32]) (rest := []) ⟨hx, hb, hml, hown, hts⟩ (mX6_set l D cy a0 a1 ma_2 x6_1.toInt32 tc_11 ma_2 5 x6_1.toInt32 tc_13 h_14) (cwV 3 hts (gcV_X6_set hbg wm_9_11) rfl rfl rfl kdX6_set ⟨Nat.le_of_ble_eq_true rfl, Nat.le_of_ble_eq_true rfl⟩) (w1 := []) (w2 := []) (w' := wX6 cy a0 a1 ma_2 x6_1.toInt32 tc_13) (List.append_nil _) (List.append_nil _) hP hK hD hN hS hA (q0 := 0) rfl rfl rfl rfl hl rfl (Nat.le_of_ble_eq_true rfl) dX6_append_127 ⟨Nat.zero_le _, Nat.zero_le _⟩ (fun H locs hP hD hS => ?_)
  refine lv_aload_n hx hb dX6_append_130 rfl (lv_at hl 1 rfl) ?_
  refine lv_aload_n hx hb dX6_append_131 rfl (lv_at hl 1 rfl) ?_
  refine x_get hx hb (C := RX6) (T := TX6) (N := 3) (ci := 6) hts iX6 hown hK hP 0 rfl rfl 0 (by decide) wd7 rfl (.int ma_2) rfl dX6_append_132 ?_
  refine lv_bipush (v := 6) hx hb dX6_append_135 (by decide) ?_
  refine lv_iconst (v := 0) hx hb dX6_append_137 (by decide) ?_
  obtain ⟨tc_15, h_16, hf⟩ := bd1_el hf
  refine x_callVv (As := [.int ma_2, .int 6, .int 0]) (rest := []) ⟨hx, hb, hml, hown, hts⟩ (mX6_set l D cy a0 a1 ma_2 x6_1.toInt32 tc_13 ma_2 6 0 tc_15 h_16) (cwV 3 hts (gcV_X6_set hbg wm_9_11) rfl rfl rfl kdX6_set ⟨Nat.le_of_ble_eq_true rfl, Nat.le_of_ble_eq_true rfl⟩) (w1 := []) (w2 := []) (w' := wX6 cy a0 a1 ma_2 x6_1.toInt32 tc_15) (List.append_nil _) (List.append_nil _) hP hK hD hN hS hA (q0 := 0) rfl rfl rfl rfl hl rfl (Nat.le_of_ble_eq_true rfl) dX6_append_138 ⟨Nat.zero_le _, Nat.zero_le _⟩ (fun H locs hP hD hS => ?_)
  have hf := Option.some.inj hf
  cases hf
  exact x_vret hx hb hr hlocks hK hP hD hS dX6_append_141
theorem kdX6_keeps : yX6_keeps.cls = RX6 ∧ yX6_keeps.cls ≠ "java/lang/invoke/MethodHandle" ∧ yX6_keeps.cls ≠ "java/lang/invoke/VarHandle" ∧ (parseMethodDescriptor yX6_keeps.desc).map (fun d => d.parameters.length) = some 1 := by decide +kernel
def rmX6_keeps : Room := { frames := 0, cells := 0, slots := 0, locals := 0 }
set_option maxHeartbeats 4000000 in
set_option maxRecDepth 100000 in
theorem mX6_keeps (l : Launch) (D : va_G) (cy : Nat → ClassId) (a0 a1 : Nat) (ma : Int32) (lc : Int32) (tc : Nat → Int32) (p1 : Int32) (r : Int32) (hf : fX6_keeps ma p1 = some r) : xMi l D cy yX6_keeps aX6_keeps rmX6_keeps ([.ref a0, .int p1] : List Value) (wX6 cy a0 a1 ma lc tc) (wX6 cy a0 a1 ma lc tc) r := by
  intro hz
  refine x_start (Qc := xQi D cy _ r) (cc := cX6_keeps) (maxL := 2) (ret := (some .boolean)) (by decide) rfl (Nat.le_of_ble_eq_true rfl) (lv := [(0, .ref a0), (1, .int p1)]) rfl ?_
  intro p e s m below meth c ls A hx hb hr hml hown hts hlocks hK hP hD hS hA hN hl
  have hown : s.vm.findClass RX6 = some m.cls := hown
  have hbg : ∀ w ∈ wsL_law, w ∈ aX6_keeps := fun w h => List.mem_cons_of_mem _ h
  have wd0 : (Cond.fieldLink RX6 9 "ClientMoneyBook$Trail" "made" "I").before ([.ref a0, .int p1] : List Value).toArray s = true := hts _ (List.mem_cons_of_mem _ wm_3_9)
  have iX6 : ∀ w ∈ u_ws RX6 TX6 3, w ∈ aX6_keeps := fun w h => List.mem_cons_of_mem _ (inlX6 w h)
  unfold fX6_keeps at hf
  refine lv_iload_n hx hb dX6_keeps_0 rfl (lv_at hl 1 rfl) ?_
  refine lv_iconst (v := 1) hx hb dX6_keeps_1 (by decide) ?_
  refine lv_icmp_lt (tgt := 28) hx hb dX6_keeps_2 (by decide) (fun c_1 => ?_) (fun c_1 => ?_)
  · have hf := x_t c_1 hf
    refine lv_iconst (v := 0) hx hb dX6_keeps_28 (by decide) ?_
    have hf := Option.some.inj hf
    cases hf
    exact x_zret hx hb hr hlocks hK hP hD hS rfl dX6_keeps_29
  · have hf := x_f c_1 hf
    refine lv_iload_n hx hb dX6_keeps_5 rfl (lv_at hl 1 rfl) ?_
    refine lv_aload_n hx hb dX6_keeps_6 rfl (lv_at hl 0 rfl) ?_
    refine x_get hx hb (C := RX6) (T := TX6) (N := 3) (ci := 6) hts iX6 hown hK hP 0 rfl rfl 0 (by decide) wd0 rfl (.int ma) rfl dX6_keeps_7 ?_
    refine lv_icmp_gt (tgt := 28) hx hb dX6_keeps_10 (by decide) (fun c_2 => ?_) (fun c_2 => ?_)
    · have hf := x_t c_2 hf
      refine lv_iconst (v := 0) hx hb dX6_keeps_28 (by decide) ?_
      have hf := Option.some.inj hf
      cases hf
      exact x_zret hx hb hr hlocks hK hP hD hS rfl dX6_keeps_29
    · have hf := x_f c_2 hf
      refine lv_iload_n hx hb dX6_keeps_13 rfl (lv_at hl 1 rfl) ?_
      refine lv_aload_n hx hb dX6_keeps_14 rfl (lv_at hl 0 rfl) ?_
      refine x_get hx hb (C := RX6) (T := TX6) (N := 3) (ci := 6) hts iX6 hown hK hP 0 rfl rfl 0 (by decide) wd0 rfl (.int ma) rfl dX6_keeps_15 ?_
      refine lv_bipush (v := 24) hx hb dX6_keeps_18 (by decide) ?_
      refine lv_isub hx hb dX6_keeps_20 ?_
      refine lv_icmp_le (tgt := 28) hx hb dX6_keeps_21 (by decide) (fun c_3 => ?_) (fun c_3 => ?_)
      · have hf := x_t c_3 hf
        refine lv_iconst (v := 0) hx hb dX6_keeps_28 (by decide) ?_
        have hf := Option.some.inj hf
        cases hf
        exact x_zret hx hb hr hlocks hK hP hD hS rfl dX6_keeps_29
      · have hf := x_f c_3 hf
        refine lv_iconst (v := 1) hx hb dX6_keeps_24 (by decide) ?_
        refine lv_goto (tgt := 29) hx hb dX6_keeps_25 (by decide) ?_
        have hf := Option.some.inj hf
        cases hf
        exact x_zret hx hb hr hlocks hK hP hD hS rfl dX6_keeps_29
theorem kdX6_get : yX6_get.cls = RX6 ∧ yX6_get.cls ≠ "java/lang/invoke/MethodHandle" ∧ yX6_get.cls ≠ "java/lang/invoke/VarHandle" ∧ (parseMethodDescriptor yX6_get.desc).map (fun d => d.parameters.length) = some 2 := by decide +kernel
def rmX6_get : Room := { frames := 1, cells := 0, slots := 0, locals := 21 }
set_option maxHeartbeats 4000000 in
set_option maxRecDepth 100000 in
theorem mX6_get (l : Launch) (D : va_G) (cy : Nat → ClassId) (a0 a1 : Nat) (ma : Int32) (lc : Int32) (tc : Nat → Int32) (p1 : Int32) (p2 : Int32) (r : Int32) (hf : fX6_get ma tc p1 p2 = some r) : xMi l D cy yX6_get aX6_get rmX6_get ([.ref a0, .int p1, .int p2] : List Value) (wX6 cy a0 a1 ma lc tc) (wX6 cy a0 a1 ma lc tc) r := by
  intro hz
  refine x_start (Qc := xQi D cy _ r) (cc := cX6_get) (maxL := 4) (ret := (some .int)) (by decide) rfl (Nat.le_of_ble_eq_true rfl) (lv := [(0, .ref a0), (1, .int p1), (2, .int p2)]) rfl ?_
  intro p e s m below meth c ls A hx hb hr hml hown hts hlocks hK hP hD hS hA hN hl
  have hown : s.vm.findClass RX6 = some m.cls := hown
  have hbg : ∀ w ∈ wsL_law, w ∈ aX6_get := fun w h => List.mem_cons_of_mem _ h
  have wd0 : (Cond.fieldLink RX6 18 "ClientMoneyBook$Trail" "cells" "[I").before ([.ref a0, .int p1, .int p2] : List Value).toArray s = true := hts _ (List.mem_cons_of_mem _ wm_3_11)
  have iX6 : ∀ w ∈ u_ws RX6 TX6 3, w ∈ aX6_get := fun w h => List.mem_cons_of_mem _ (inlX6 w h)
  unfold fX6_get at hf
  refine lv_iload_n hx hb dX6_get_0 rfl (lv_at hl 1 rfl) ?_
  refine lv_iload_n hx hb dX6_get_1 rfl (lv_at hl 2 rfl) ?_
  obtain ⟨r_1, h_2, hf⟩ := bd1_el hf
  refine x_callSi (As := [.int p1, .int p2]) (rest := []) ⟨hx, hb, hml, hown, hts⟩ (mX6_cellOf l D cy   p1 p2 r_1 h_2) (va_cwS 2 hts (gcS_X6_cellOf hbg wm_9_15) rfl rfl rfl kdX6_cellOf ⟨Nat.le_of_ble_eq_true rfl, Nat.le_of_ble_eq_true rfl⟩) (w1 := []) (w2 := wX6 cy a0 a1 ma lc tc) (w' := wX6 cy a0 a1 ma lc tc) rfl rfl hP hK hD hN hS hA rfl hl rfl (Nat.le_of_ble_eq_true rfl) dX6_get_2 ⟨Nat.zero_le _, Nat.zero_le _⟩ (fun H locs hP hD hS => ?_)
  refine lv_istore_n (lv' := [(3, .int r_1), (0, .ref a0), (1, .int p1), (2, .int p2)]) hx hb dX6_get_5 rfl hl (by decide) rfl (fun ls hl => ?_)
  refine lv_aload_n hx hb dX6_get_6 rfl (lv_at hl 1 rfl) ?_
  refine lv_iload_n hx hb dX6_get_7 rfl (lv_at hl 2 rfl) ?_
  obtain ⟨r_3, h_4, hf⟩ := bd1_el hf
  refine x_callVi (As := [.int p1]) (rest := []) ⟨hx, hb, hml, hown, hts⟩ (mX6_keeps l D cy a0 a1 ma lc tc p1 r_3 h_4) (cwV 1 hts (gcV_X6_keeps hbg wm_18_10) rfl rfl rfl kdX6_keeps ⟨Nat.le_of_ble_eq_true rfl, Nat.le_of_ble_eq_true rfl⟩) (w1 := []) (w2 := []) (w' := wX6 cy a0 a1 ma lc tc) (List.append_nil _) (List.append_nil _) hP hK hD hN hS hA (q0 := 0) rfl rfl rfl rfl hl rfl (Nat.le_of_ble_eq_true rfl) dX6_get_8 ⟨Nat.zero_le _, Nat.zero_le _⟩ (fun H locs hP hD hS => ?_)
  refine lv_if_eq (tgt := 36) hx hb dX6_get_11 (by decide) (fun c_5 => ?_) (fun c_5 => ?_)
  · have hf := x_t c_5 hf
    refine lv_iconst (v := 0) hx hb dX6_get_36 (by decide) ?_
    have hf := Option.some.inj hf
    cases hf
    exact x_iret hx hb hr hlocks hK hP hD hS dX6_get_37
  · have hf := x_f c_5 hf
    refine lv_iload_n hx hb dX6_get_14 rfl (lv_at hl 0 rfl) ?_
    refine lv_if_lt (tgt := 36) hx hb dX6_get_15 (by decide) (fun c_6 => ?_) (fun c_6 => ?_)
    · have hf := x_t c_6 hf
      refine lv_iconst (v := 0) hx hb dX6_get_36 (by decide) ?_
      have hf := Option.some.inj hf
      cases hf
      exact x_iret hx hb hr hlocks hK hP hD hS dX6_get_37
    · have hf := x_f c_6 hf
      refine lv_iload_n hx hb dX6_get_18 rfl (lv_at hl 0 rfl) ?_
      refine lv_aload_n hx hb dX6_get_19 rfl (lv_at hl 1 rfl) ?_
      refine x_get hx hb (C := RX6) (T := TX6) (N := 3) (ci := 6) hts iX6 hown hK hP 0 rfl rfl 2 (by decide) wd0 rfl (.ref a1) rfl dX6_get_20 ?_
      refine va_alen (v := 168) hx hb hK hP 1 1 rfl rfl rfl dX6_get_23 ?_
      refine lv_icmp_ge (tgt := 36) hx hb dX6_get_24 (by decide) (fun c_7 => ?_) (fun c_7 => ?_)
      · have hf := x_t c_7 hf
        refine lv_iconst (v := 0) hx hb dX6_get_36 (by decide) ?_
        have hf := Option.some.inj hf
        cases hf
        exact x_iret hx hb hr hlocks hK hP hD hS dX6_get_37
      · have hf := x_f c_7 hf
        refine lv_aload_n hx hb dX6_get_27 rfl (lv_at hl 1 rfl) ?_
        refine x_get hx hb (C := RX6) (T := TX6) (N := 3) (ci := 6) hts iX6 hown hK hP 0 rfl rfl 2 (by decide) wd0 rfl (.ref a1) rfl dX6_get_28 ?_
        refine lv_iload_n hx hb dX6_get_31 rfl (lv_at hl 0 rfl) ?_
        obtain ⟨hi_8, hf⟩ := ckI_el hf
        refine va_iald hx hb hK hP 1 1 rfl rfl hi_8 dX6_get_32 ?_
        refine lv_goto (tgt := 37) hx hb dX6_get_33 (by decide) ?_
        have hf := Option.some.inj hf
        cases hf
        exact x_iret hx hb hr hlocks hK hP hD hS dX6_get_37
theorem kdX6_markReversed : yX6_markReversed.cls = RX6 ∧ yX6_markReversed.cls ≠ "java/lang/invoke/MethodHandle" ∧ yX6_markReversed.cls ≠ "java/lang/invoke/VarHandle" ∧ (parseMethodDescriptor yX6_markReversed.desc).map (fun d => d.parameters.length) = some 1 := by decide +kernel
def rmX6_markReversed : Room := { frames := 2, cells := 0, slots := 0, locals := 45 }
set_option maxHeartbeats 4000000 in
set_option maxRecDepth 100000 in
theorem mX6_markReversed (l : Launch) (D : va_G) (cy : Nat → ClassId) (a0 a1 : Nat) (ma : Int32) (lc : Int32) (tc : Nat → Int32) (p1 : Int32) (tc' : Nat → Int32) (hf : fX6_markReversed ma tc p1 = some tc') : xMv l D cy yX6_markReversed aX6_markReversed rmX6_markReversed ([.ref a0, .int p1] : List Value) (wX6 cy a0 a1 ma lc tc) (wX6 cy a0 a1 ma lc tc') := by
  intro hz
  refine x_start (Qc := xQv D cy _) (cc := cX6_markReversed) (maxL := 2) (ret := none) (by decide) rfl (Nat.le_of_ble_eq_true rfl) (lv := [(0, .ref a0), (1, .int p1)]) rfl ?_
  intro p e s m below meth c ls A hx hb hr hml hown hts hlocks hK hP hD hS hA hN hl
  have hown : s.vm.findClass RX6 = some m.cls := hown
  have hbg : ∀ w ∈ wsL_law, w ∈ aX6_markReversed := fun w h => List.mem_cons_of_mem _ h
  unfold fX6_markReversed at hf
  refine lv_aload_n hx hb dX6_markReversed_0 rfl (lv_at hl 0 rfl) ?_
  refine lv_iload_n hx hb dX6_markReversed_1 rfl (lv_at hl 1 rfl) ?_
  obtain ⟨r_1, h_2, hf⟩ := bd1_el hf
  refine x_callVi (As := [.int p1]) (rest := []) ⟨hx, hb, hml, hown, hts⟩ (mX6_keeps l D cy a0 a1 ma lc tc p1 r_1 h_2) (cwV 1 hts (gcV_X6_keeps hbg wm_18_10) rfl rfl rfl kdX6_keeps ⟨Nat.le_of_ble_eq_true rfl, Nat.le_of_ble_eq_true rfl⟩) (w1 := []) (w2 := []) (w' := wX6 cy a0 a1 ma lc tc) (List.append_nil _) (List.append_nil _) hP hK hD hN hS hA (q0 := 0) rfl rfl rfl rfl hl rfl (Nat.le_of_ble_eq_true rfl) dX6_markReversed_2 ⟨Nat.zero_le _, Nat.zero_le _⟩ (fun H locs hP hD hS => ?_)
  refine lv_if_eq (tgt := 16) hx hb dX6_markReversed_5 (by decide) (fun c_3 => ?_) (fun c_3 => ?_)
  · have hf := x_t c_3 hf
    have hf := Option.some.inj hf
    cases hf
    exact x_vret hx hb hr hlocks hK hP hD hS dX6_markReversed_16
  · have hf := x_f c_3 hf
    refine lv_aload_n hx hb dX6_markReversed_8 rfl (lv_at hl 0 rfl) ?_
    refine lv_iload_n hx hb dX6_markReversed_9 rfl (lv_at hl 1 rfl) ?_
    refine lv_bipush (v := 6) hx hb dX6_markReversed_10 (by decide) ?_
    refine lv_iconst (v := 1) hx hb dX6_markReversed_12 (by decide) ?_
    obtain ⟨tc_4, h_5, hf⟩ := bd1_el hf
    refine x_callVv (As := [.int p1, .int 6, .int 1]) (rest := []) ⟨hx, hb, hml, hown, hts⟩ (mX6_set l D cy a0 a1 ma lc tc p1 6 1 tc_4 h_5) (cwV 3 hts (gcV_X6_set hbg wm_9_11) rfl rfl rfl kdX6_set ⟨Nat.le_of_ble_eq_true rfl, Nat.le_of_ble_eq_true rfl⟩) (w1 := []) (w2 := []) (w' := wX6 cy a0 a1 ma lc tc_4) (List.append_nil _) (List.append_nil _) hP hK hD hN hS hA (q0 := 0) rfl rfl rfl rfl hl rfl (Nat.le_of_ble_eq_true rfl) dX6_markReversed_13 ⟨Nat.zero_le _, Nat.zero_le _⟩ (fun H locs hP hD hS => ?_)
    have hf := Option.some.inj hf
    cases hf
    exact x_vret hx hb hr hlocks hK hP hD hS dX6_markReversed_16
