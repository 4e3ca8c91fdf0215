theorem kdX7_isAmount : yX7_isAmount.cls ≠ "java/lang/invoke/MethodHandle" ∧ yX7_isAmount.cls ≠ "java/lang/invoke/VarHandle" ∧ (parseMethodDescriptor yX7_isAmount.desc).map (fun d => d.parameters.length) = some 1 := by decide +kernel
def rmX7_isAmount : Room := { frames := 0, cells := 0, slots := 0, locals := 0 }
set_option maxHeartbeats 4000000 in
set_option maxRecDepth 100000 in
theorem mX7_isAmount (l : Launch) (D : va_G) (cy : Nat → ClassId)  (p1 : Int32) (r : Int32) (hf : fX7_isAmount p1 = some r) : xMi l D cy yX7_isAmount aX7_isAmount rmX7_isAmount ([.int p1] : List Value) ([]) ([]) r := by
  intro hz
  refine x_start (Qc := xQi D cy _ r) (cc := cX7_isAmount) (maxL := 1) (ret := (some .boolean)) (by decide) rfl (Nat.le_of_ble_eq_true rfl) (lv := [(0, .int p1)]) rfl ?_
  intro p e s m below meth c ls A hx hb hr hml hown hts hlocks hK hP hD hS hA hN hl
  have hown : s.vm.findClass RX7 = some m.cls := hown
  have hbg : ∀ w ∈ wsL_law, w ∈ aX7_isAmount := fun w h => List.mem_cons_of_mem _ h
  have wd0 : (Cond.constant RX7 230 (100000000)).before ([.int p1] : List Value).toArray s = true := hts _ (List.mem_cons_of_mem _ wm_8_12)
  unfold fX7_isAmount at hf
  refine lv_iload_n hx hb dX7_isAmount_0 rfl (lv_at hl 0 rfl) ?_
  refine lv_iconst (v := 1) hx hb dX7_isAmount_1 (by decide) ?_
  refine lv_icmp_lt (tgt := 15) hx hb dX7_isAmount_2 (by decide) (fun c_1 => ?_) (fun c_1 => ?_)
  · have hf := x_t c_1 hf
    refine lv_iconst (v := 0) hx hb dX7_isAmount_15 (by decide) ?_
    have hf := Option.some.inj hf
    cases hf
    exact x_zret hx hb hr hlocks hK hP hD hS rfl dX7_isAmount_16
  · have hf := x_f c_1 hf
    refine lv_iload_n hx hb dX7_isAmount_5 rfl (lv_at hl 0 rfl) ?_
    refine lv_ldc hx hb hown wd0 dX7_isAmount_6 ?_
    refine lv_icmp_gt (tgt := 15) hx hb dX7_isAmount_8 (by decide) (fun c_2 => ?_) (fun c_2 => ?_)
    · have hf := x_t c_2 hf
      refine lv_iconst (v := 0) hx hb dX7_isAmount_15 (by decide) ?_
      have hf := Option.some.inj hf
      cases hf
      exact x_zret hx hb hr hlocks hK hP hD hS rfl dX7_isAmount_16
    · have hf := x_f c_2 hf
      refine lv_iconst (v := 1) hx hb dX7_isAmount_11 (by decide) ?_
      refine lv_goto (tgt := 16) hx hb dX7_isAmount_12 (by decide) ?_
      have hf := Option.some.inj hf
      cases hf
      exact x_zret hx hb hr hlocks hK hP hD hS rfl dX7_isAmount_16
theorem kdX7_nextCreditDay : yX7_nextCreditDay.cls ≠ "java/lang/invoke/MethodHandle" ∧ yX7_nextCreditDay.cls ≠ "java/lang/invoke/VarHandle" ∧ (parseMethodDescriptor yX7_nextCreditDay.desc).map (fun d => d.parameters.length) = some 1 := by decide +kernel
def rmX7_nextCreditDay : Room := { frames := 0, cells := 0, slots := 0, locals := 0 }
set_option maxHeartbeats 4000000 in
set_option maxRecDepth 100000 in
theorem mX7_nextCreditDay (l : Launch) (D : va_G) (cy : Nat → ClassId)  (p1 : Int32) (r : Int32) (hf : fX7_nextCreditDay p1 = some r) : xMi l D cy yX7_nextCreditDay aX7_nextCreditDay rmX7_nextCreditDay ([.int p1] : List Value) ([]) ([]) r := by
  intro hz
  refine x_start (Qc := xQi D cy _ r) (cc := cX7_nextCreditDay) (maxL := 1) (ret := (some .int)) (by decide) rfl (Nat.le_of_ble_eq_true rfl) (lv := [(0, .int p1)]) rfl ?_
  intro p e s m below meth c ls A hx hb hr hml hown hts hlocks hK hP hD hS hA hN hl
  have hown : s.vm.findClass RX7 = some m.cls := hown
  have hbg : ∀ w ∈ wsL_law, w ∈ aX7_nextCreditDay := fun w h => List.mem_cons_of_mem _ h
  unfold fX7_nextCreditDay at hf
  refine lv_iload_n hx hb dX7_nextCreditDay_0 rfl (lv_at hl 0 rfl) ?_
  refine lv_iload_n hx hb dX7_nextCreditDay_1 rfl (lv_at hl 0 rfl) ?_
  refine lv_bipush (v := 30) hx hb dX7_nextCreditDay_2 (by decide) ?_
  refine lv_irem hx hb dX7_nextCreditDay_4 (by decide) ?_
  refine lv_isub hx hb dX7_nextCreditDay_5 ?_
  refine lv_bipush (v := 30) hx hb dX7_nextCreditDay_6 (by decide) ?_
  refine lv_iadd hx hb dX7_nextCreditDay_8 ?_
  have hf := Option.some.inj hf
  cases hf
  exact x_iret hx hb hr hlocks hK hP hD hS dX7_nextCreditDay_9
