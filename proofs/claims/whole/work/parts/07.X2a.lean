theorem kdX2_append : yX2_append.cls = RX2 ∧ yX2_append.cls ≠ "java/lang/invoke/MethodHandle" ∧ yX2_append.cls ≠ "java/lang/invoke/VarHandle" ∧ (parseMethodDescriptor yX2_append.desc).map (fun d => d.parameters.length) = some 1 := by decide +kernel
def rmX2_append : Room := { frames := 0, cells := 0, slots := 0, locals := 0 }
set_option maxHeartbeats 4000000 in
set_option maxRecDepth 100000 in
theorem mX2_append (l : Launch) (D : va_G) (cy : Nat → ClassId) (a0 a1 : Nat) (le : Int32) (ch : Nat → Int32) (po : Int32) (ltr : Int32) (fi : Int32) (se : Int32) (th : Int32) (p1 : Int32) (r : Int32) (le' : Int32) (ch' : Nat → Int32) (hf : fX2_append le ch p1 = some (r, le', ch')) : xMi l D cy yX2_append aX2_append rmX2_append ([.ref a0, .int p1] : List Value) (wX2 cy a0 a1 le ch po ltr fi se th) (wX2 cy a0 a1 le' ch' po ltr fi se th) r := by
  intro hz
  refine x_start (Qc := xQi D cy _ r) (cc := cX2_append) (maxL := 2) (ret := (some .int)) (by decide) rfl (Nat.le_of_ble_eq_true rfl) (lv := [(0, .ref a0), (1, .int p1)]) rfl ?_
  intro p e s m below meth c ls A hx hb hr hml hown hts hlocks hK hP hD hS hA hN hl
  have hown : s.vm.findClass RX2 = some m.cls := hown
  have hbg : ∀ w ∈ wsL_law, w ∈ aX2_append := fun w h => List.mem_cons_of_mem _ h
  have wd0 : (Cond.fieldLink RX2 9 "ClientMoneyBook$OrderText" "length" "I").before ([.ref a0, .int p1] : List Value).toArray s = true := hts _ (List.mem_cons_of_mem _ wm_3_15)
  have wd1 : (Cond.fieldLink RX2 15 "ClientMoneyBook$OrderText" "characters" "[C").before ([.ref a0, .int p1] : List Value).toArray s = true := hts _ (List.mem_cons_of_mem _ wm_3_17)
  have iX2 : ∀ w ∈ u_ws RX2 TX2 7, w ∈ aX2_append := fun w h => List.mem_cons_of_mem _ (inlX2 w h)
  unfold fX2_append at hf
  refine lv_aload_n hx hb dX2_append_0 rfl (lv_at hl 0 rfl) ?_
  refine x_get hx hb (C := RX2) (T := TX2) (N := 7) (ci := 2) hts iX2 hown hK hP 0 rfl rfl 0 (by decide) wd0 rfl (.int le) rfl dX2_append_1 ?_
  refine lv_if_lt (tgt := 36) hx hb dX2_append_4 (by decide) (fun c_1 => ?_) (fun c_1 => ?_)
  · have hf := x_t c_1 hf
    refine lv_aload_n hx hb dX2_append_36 rfl (lv_at hl 0 rfl) ?_
    refine x_get hx hb (C := RX2) (T := TX2) (N := 7) (ci := 2) hts iX2 hown hK hP 0 rfl rfl 0 (by decide) wd0 rfl (.int le) rfl dX2_append_37 ?_
    have hf := Option.some.inj hf
    cases hf
    exact x_iret hx hb hr hlocks hK hP hD hS dX2_append_40
  · have hf := x_f c_1 hf
    refine lv_aload_n hx hb dX2_append_7 rfl (lv_at hl 0 rfl) ?_
    refine x_get hx hb (C := RX2) (T := TX2) (N := 7) (ci := 2) hts iX2 hown hK hP 0 rfl rfl 0 (by decide) wd0 rfl (.int le) rfl dX2_append_8 ?_
    refine lv_bipush (v := 80) hx hb dX2_append_11 (by decide) ?_
    refine lv_icmp_ge (tgt := 36) hx hb dX2_append_13 (by decide) (fun c_2 => ?_) (fun c_2 => ?_)
    · have hf := x_t c_2 hf
      refine lv_aload_n hx hb dX2_append_36 rfl (lv_at hl 0 rfl) ?_
      refine x_get hx hb (C := RX2) (T := TX2) (N := 7) (ci := 2) hts iX2 hown hK hP 0 rfl rfl 0 (by decide) wd0 rfl (.int le) rfl dX2_append_37 ?_
      have hf := Option.some.inj hf
      cases hf
      exact x_iret hx hb hr hlocks hK hP hD hS dX2_append_40
    · have hf := x_f c_2 hf
      refine lv_aload_n hx hb dX2_append_16 rfl (lv_at hl 0 rfl) ?_
      refine x_get hx hb (C := RX2) (T := TX2) (N := 7) (ci := 2) hts iX2 hown hK hP 0 rfl rfl 1 (by decide) wd1 rfl (.ref a1) rfl dX2_append_17 ?_
      refine lv_aload_n hx hb dX2_append_20 rfl (lv_at hl 0 rfl) ?_
      refine x_get hx hb (C := RX2) (T := TX2) (N := 7) (ci := 2) hts iX2 hown hK hP 0 rfl rfl 0 (by decide) wd0 rfl (.int le) rfl dX2_append_21 ?_
      refine lv_iload_n hx hb dX2_append_24 rfl (lv_at hl 1 rfl) ?_
      obtain ⟨hi_3, hf⟩ := ckI_el hf
      obtain ⟨ch_4, ech_4, hf⟩ := lt_el hf
      refine x_cast hx hb hK hP hD hS 1 rfl hi_3 ech_4 (w' := wX2 cy a0 a1 le ch_4 po ltr fi se th) rfl dX2_append_25 (fun H locs hP hD hS => ?_)
      refine lv_aload_n hx hb dX2_append_26 rfl (lv_at hl 0 rfl) ?_
      refine lv_dup hx hb dX2_append_27 rfl ?_
      refine x_get hx hb (C := RX2) (T := TX2) (N := 7) (ci := 2) hts iX2 hown hK hP 0 rfl rfl 0 (by decide) wd0 rfl (.int le) rfl dX2_append_28 ?_
      refine lv_iconst (v := 1) hx hb dX2_append_31 (by decide) ?_
      refine lv_iadd hx hb dX2_append_32 ?_
      obtain ⟨le_5, ele_5, hf⟩ := lt_el hf
      refine x_topi ele_5 ?_
      refine x_put hx hb (C := RX2) (T := TX2) (N := 7) (ci := 2) hts iX2 tyX2 tyX2_ok nmX2 hown hK hP hD hS 0 rfl rfl 0 (by decide) wd0 rfl rfl (ty := .int) rfl rfl rfl (Nat.le_of_ble_eq_true rfl) (w' := wX2 cy a0 a1 le_5 ch_4 po ltr fi se th) rfl dX2_append_33 (fun H locs hP hD hS => ?_)
      refine lv_aload_n hx hb dX2_append_36 rfl (lv_at hl 0 rfl) ?_
      refine x_get hx hb (C := RX2) (T := TX2) (N := 7) (ci := 2) hts iX2 hown hK hP 0 rfl rfl 0 (by decide) wd0 rfl (.int le_5) rfl dX2_append_37 ?_
      have hf := Option.some.inj hf
      cases hf
      exact x_iret hx hb hr hlocks hK hP hD hS dX2_append_40
theorem kdX2_empty : yX2_empty.cls = RX2 ∧ yX2_empty.cls ≠ "java/lang/invoke/MethodHandle" ∧ yX2_empty.cls ≠ "java/lang/invoke/VarHandle" ∧ (parseMethodDescriptor yX2_empty.desc).map (fun d => d.parameters.length) = some 0 := by decide +kernel
def rmX2_empty : Room := { frames := 0, cells := 0, slots := 0, locals := 0 }
set_option maxHeartbeats 4000000 in
set_option maxRecDepth 100000 in
theorem mX2_empty (l : Launch) (D : va_G) (cy : Nat → ClassId) (a0 a1 : Nat) (le : Int32) (ch : Nat → Int32) (po : Int32) (ltr : Int32) (fi : Int32) (se : Int32) (th : Int32)  (r : Int32) (le' : Int32) (hf : fX2_empty le = some (r, le')) : xMi l D cy yX2_empty aX2_empty rmX2_empty ([.ref a0] : List Value) (wX2 cy a0 a1 le ch po ltr fi se th) (wX2 cy a0 a1 le' ch po ltr fi se th) r := by
  intro hz
  refine x_start (Qc := xQi D cy _ r) (cc := cX2_empty) (maxL := 2) (ret := (some .int)) (by decide) rfl (Nat.le_of_ble_eq_true rfl) (lv := [(0, .ref a0)]) rfl ?_
  intro p e s m below meth c ls A hx hb hr hml hown hts hlocks hK hP hD hS hA hN hl
  have hown : s.vm.findClass RX2 = some m.cls := hown
  have hbg : ∀ w ∈ wsL_law, w ∈ aX2_empty := fun w h => List.mem_cons_of_mem _ h
  have wd0 : (Cond.fieldLink RX2 9 "ClientMoneyBook$OrderText" "length" "I").before ([.ref a0] : List Value).toArray s = true := hts _ (List.mem_cons_of_mem _ wm_3_15)
  have iX2 : ∀ w ∈ u_ws RX2 TX2 7, w ∈ aX2_empty := fun w h => List.mem_cons_of_mem _ (inlX2 w h)
  unfold fX2_empty at hf
  refine lv_aload_n hx hb dX2_empty_0 rfl (lv_at hl 0 rfl) ?_
  refine x_get hx hb (C := RX2) (T := TX2) (N := 7) (ci := 2) hts iX2 hown hK hP 0 rfl rfl 0 (by decide) wd0 rfl (.int le) rfl dX2_empty_1 ?_
  refine lv_istore_n (lv' := [(1, .int le), (0, .ref a0)]) hx hb dX2_empty_4 rfl hl (by decide) rfl (fun ls hl => ?_)
  refine lv_aload_n hx hb dX2_empty_5 rfl (lv_at hl 1 rfl) ?_
  refine lv_iconst (v := 0) hx hb dX2_empty_6 (by decide) ?_
  refine x_put hx hb (C := RX2) (T := TX2) (N := 7) (ci := 2) hts iX2 tyX2 tyX2_ok nmX2 hown hK hP hD hS 0 rfl rfl 0 (by decide) wd0 rfl rfl (ty := .int) rfl rfl rfl (Nat.le_of_ble_eq_true rfl) (w' := wX2 cy a0 a1 0 ch po ltr fi se th) rfl dX2_empty_7 (fun H locs hP hD hS => ?_)
  refine lv_iload_n hx hb dX2_empty_10 rfl (lv_at hl 0 rfl) ?_
  have hf := Option.some.inj hf
  cases hf
  exact x_iret hx hb hr hlocks hK hP hD hS dX2_empty_11
theorem kdX2_at : yX2_at.cls = RX2 ∧ yX2_at.cls ≠ "java/lang/invoke/MethodHandle" ∧ yX2_at.cls ≠ "java/lang/invoke/VarHandle" ∧ (parseMethodDescriptor yX2_at.desc).map (fun d => d.parameters.length) = some 1 := by decide +kernel
def rmX2_at : Room := { frames := 0, cells := 0, slots := 0, locals := 0 }
set_option maxHeartbeats 4000000 in
set_option maxRecDepth 100000 in
theorem mX2_at (l : Launch) (D : va_G) (cy : Nat → ClassId) (a0 a1 : Nat) (le : Int32) (ch : Nat → Int32) (po : Int32) (ltr : Int32) (fi : Int32) (se : Int32) (th : Int32) (p1 : Int32) (r : Int32) (hf : fX2_at le ch p1 = some r) : xMi l D cy yX2_at aX2_at rmX2_at ([.ref a0, .int p1] : List Value) (wX2 cy a0 a1 le ch po ltr fi se th) (wX2 cy a0 a1 le ch po ltr fi se th) r := by
  intro hz
  refine x_start (Qc := xQi D cy _ r) (cc := cX2_at) (maxL := 2) (ret := (some .char)) (by decide) rfl (Nat.le_of_ble_eq_true rfl) (lv := [(0, .ref a0), (1, .int p1)]) rfl ?_
  intro p e s m below meth c ls A hx hb hr hml hown hts hlocks hK hP hD hS hA hN hl
  have hown : s.vm.findClass RX2 = some m.cls := hown
  have hbg : ∀ w ∈ wsL_law, w ∈ aX2_at := fun w h => List.mem_cons_of_mem _ h
  have wd0 : (Cond.fieldLink RX2 9 "ClientMoneyBook$OrderText" "length" "I").before ([.ref a0, .int p1] : List Value).toArray s = true := hts _ (List.mem_cons_of_mem _ wm_3_15)
  have wd1 : (Cond.fieldLink RX2 15 "ClientMoneyBook$OrderText" "characters" "[C").before ([.ref a0, .int p1] : List Value).toArray s = true := hts _ (List.mem_cons_of_mem _ wm_3_17)
  have iX2 : ∀ w ∈ u_ws RX2 TX2 7, w ∈ aX2_at := fun w h => List.mem_cons_of_mem _ (inlX2 w h)
  unfold fX2_at at hf
  refine lv_iload_n hx hb dX2_at_0 rfl (lv_at hl 1 rfl) ?_
  refine lv_if_lt (tgt := 27) hx hb dX2_at_1 (by decide) (fun c_1 => ?_) (fun c_1 => ?_)
  · have hf := x_t c_1 hf
    refine lv_iconst (v := 0) hx hb dX2_at_27 (by decide) ?_
    have hf := Option.some.inj hf
    cases hf
    exact x_zret hx hb hr hlocks hK hP hD hS rfl dX2_at_28
  · have hf := x_f c_1 hf
    refine lv_iload_n hx hb dX2_at_4 rfl (lv_at hl 1 rfl) ?_
    refine lv_aload_n hx hb dX2_at_5 rfl (lv_at hl 0 rfl) ?_
    refine x_get hx hb (C := RX2) (T := TX2) (N := 7) (ci := 2) hts iX2 hown hK hP 0 rfl rfl 0 (by decide) wd0 rfl (.int le) rfl dX2_at_6 ?_
    refine lv_icmp_ge (tgt := 27) hx hb dX2_at_9 (by decide) (fun c_2 => ?_) (fun c_2 => ?_)
    · have hf := x_t c_2 hf
      refine lv_iconst (v := 0) hx hb dX2_at_27 (by decide) ?_
      have hf := Option.some.inj hf
      cases hf
      exact x_zret hx hb hr hlocks hK hP hD hS rfl dX2_at_28
    · have hf := x_f c_2 hf
      refine lv_iload_n hx hb dX2_at_12 rfl (lv_at hl 1 rfl) ?_
      refine lv_bipush (v := 80) hx hb dX2_at_13 (by decide) ?_
      refine lv_icmp_ge (tgt := 27) hx hb dX2_at_15 (by decide) (fun c_3 => ?_) (fun c_3 => ?_)
      · have hf := x_t c_3 hf
        refine lv_iconst (v := 0) hx hb dX2_at_27 (by decide) ?_
        have hf := Option.some.inj hf
        cases hf
        exact x_zret hx hb hr hlocks hK hP hD hS rfl dX2_at_28
      · have hf := x_f c_3 hf
        refine lv_aload_n hx hb dX2_at_18 rfl (lv_at hl 0 rfl) ?_
        refine x_get hx hb (C := RX2) (T := TX2) (N := 7) (ci := 2) hts iX2 hown hK hP 0 rfl rfl 1 (by decide) wd1 rfl (.ref a1) rfl dX2_at_19 ?_
        refine lv_iload_n hx hb dX2_at_22 rfl (lv_at hl 1 rfl) ?_
        obtain ⟨hi_4, hf⟩ := ckI_el hf
        refine va_cald hx hb hK hP 1 0 rfl rfl hi_4 dX2_at_23 ?_
        refine lv_goto (tgt := 28) hx hb dX2_at_24 (by decide) ?_
        obtain ⟨hnr, hf⟩ := ckP_el hf
        have hf := Option.some.inj hf
        cases hf
        exact x_zret hx hb hr hlocks hK hP hD hS hnr dX2_at_28
theorem kdX2_isDigit : yX2_isDigit.cls ≠ "java/lang/invoke/MethodHandle" ∧ yX2_isDigit.cls ≠ "java/lang/invoke/VarHandle" ∧ (parseMethodDescriptor yX2_isDigit.desc).map (fun d => d.parameters.length) = some 1 := by decide +kernel
def rmX2_isDigit : Room := { frames := 0, cells := 0, slots := 0, locals := 0 }
set_option maxHeartbeats 4000000 in
set_option maxRecDepth 100000 in
theorem mX2_isDigit (l : Launch) (D : va_G) (cy : Nat → ClassId)  (p1 : Int32) (r : Int32) (hf : fX2_isDigit p1 = some r) : xMi l D cy yX2_isDigit aX2_isDigit rmX2_isDigit ([.int p1] : List Value) ([]) ([]) r := by
  intro hz
  refine x_start (Qc := xQi D cy _ r) (cc := cX2_isDigit) (maxL := 1) (ret := (some .boolean)) (by decide) rfl (Nat.le_of_ble_eq_true rfl) (lv := [(0, .int p1)]) rfl ?_
  intro p e s m below meth c ls A hx hb hr hml hown hts hlocks hK hP hD hS hA hN hl
  have hown : s.vm.findClass RX2 = some m.cls := hown
  have hbg : ∀ w ∈ wsL_law, w ∈ aX2_isDigit := fun w h => List.mem_cons_of_mem _ h
  unfold fX2_isDigit at hf
  refine lv_iload_n hx hb dX2_isDigit_0 rfl (lv_at hl 0 rfl) ?_
  refine lv_bipush (v := 48) hx hb dX2_isDigit_1 (by decide) ?_
  refine lv_icmp_lt (tgt := 16) hx hb dX2_isDigit_3 (by decide) (fun c_1 => ?_) (fun c_1 => ?_)
  · have hf := x_t c_1 hf
    refine lv_iconst (v := 0) hx hb dX2_isDigit_16 (by decide) ?_
    have hf := Option.some.inj hf
    cases hf
    exact x_zret hx hb hr hlocks hK hP hD hS rfl dX2_isDigit_17
  · have hf := x_f c_1 hf
    refine lv_iload_n hx hb dX2_isDigit_6 rfl (lv_at hl 0 rfl) ?_
    refine lv_bipush (v := 57) hx hb dX2_isDigit_7 (by decide) ?_
    refine lv_icmp_gt (tgt := 16) hx hb dX2_isDigit_9 (by decide) (fun c_2 => ?_) (fun c_2 => ?_)
    · have hf := x_t c_2 hf
      refine lv_iconst (v := 0) hx hb dX2_isDigit_16 (by decide) ?_
      have hf := Option.some.inj hf
      cases hf
      exact x_zret hx hb hr hlocks hK hP hD hS rfl dX2_isDigit_17
    · have hf := x_f c_2 hf
      refine lv_iconst (v := 1) hx hb dX2_isDigit_12 (by decide) ?_
      refine lv_goto (tgt := 17) hx hb dX2_isDigit_13 (by decide) ?_
      have hf := Option.some.inj hf
      cases hf
      exact x_zret hx hb hr hlocks hK hP hD hS rfl dX2_isDigit_17
theorem kdX2_signAfter : yX2_signAfter.cls ≠ "java/lang/invoke/MethodHandle" ∧ yX2_signAfter.cls ≠ "java/lang/invoke/VarHandle" ∧ (parseMethodDescriptor yX2_signAfter.desc).map (fun d => d.parameters.length) = some 2 := by decide +kernel
def rmX2_signAfter : Room := { frames := 0, cells := 0, slots := 0, locals := 0 }
set_option maxHeartbeats 4000000 in
set_option maxRecDepth 100000 in
theorem mX2_signAfter (l : Launch) (D : va_G) (cy : Nat → ClassId)  (p1 : Int32) (p2 : Int32) (r : Int32) (hf : fX2_signAfter p1 p2 = some r) : xMi l D cy yX2_signAfter aX2_signAfter rmX2_signAfter ([.int p1, .int p2] : List Value) ([]) ([]) r := by
  intro hz
  refine x_start (Qc := xQi D cy _ r) (cc := cX2_signAfter) (maxL := 2) (ret := (some .char)) (by decide) rfl (Nat.le_of_ble_eq_true rfl) (lv := [(0, .int p1), (1, .int p2)]) rfl ?_
  intro p e s m below meth c ls A hx hb hr hml hown hts hlocks hK hP hD hS hA hN hl
  have hown : s.vm.findClass RX2 = some m.cls := hown
  have hbg : ∀ w ∈ wsL_law, w ∈ aX2_signAfter := fun w h => List.mem_cons_of_mem _ h
  unfold fX2_signAfter at hf
  refine lv_iload_n hx hb dX2_signAfter_0 rfl (lv_at hl 0 rfl) ?_
  refine lv_bipush (v := 116) hx hb dX2_signAfter_1 (by decide) ?_
  refine lv_icmp_ne (tgt := 28) hx hb dX2_signAfter_3 (by decide) (fun c_1 => ?_) (fun c_1 => ?_)
  · have hf := x_f c_1 hf
    refine lv_iload_n hx hb dX2_signAfter_28 rfl (lv_at hl 0 rfl) ?_
    refine lv_bipush (v := 115) hx hb dX2_signAfter_29 (by decide) ?_
    refine lv_icmp_eq (tgt := 40) hx hb dX2_signAfter_31 (by decide) (fun c_2 => ?_) (fun c_2 => ?_)
    · have hf := x_t c_2 hf
      refine lv_bipush (v := 59) hx hb dX2_signAfter_40 (by decide) ?_
      have hf := Option.some.inj hf
      cases hf
      exact x_zret hx hb hr hlocks hK hP hD hS rfl dX2_signAfter_42
    · have hf := x_f c_2 hf
      refine lv_iload_n hx hb dX2_signAfter_34 rfl (lv_at hl 0 rfl) ?_
      refine lv_bipush (v := 100) hx hb dX2_signAfter_35 (by decide) ?_
      refine lv_icmp_ne (tgt := 43) hx hb dX2_signAfter_37 (by decide) (fun c_3 => ?_) (fun c_3 => ?_)
      · have hf := x_f c_3 hf
        refine lv_iload_n hx hb dX2_signAfter_43 rfl (lv_at hl 1 rfl) ?_
        refine lv_if_ne (tgt := 52) hx hb dX2_signAfter_44 (by decide) (fun c_4 => ?_) (fun c_4 => ?_)
        · have hf := x_f c_4 hf
          refine lv_bipush (v := 59) hx hb dX2_signAfter_52 (by decide) ?_
          have hf := Option.some.inj hf
          cases hf
          exact x_zret hx hb hr hlocks hK hP hD hS rfl dX2_signAfter_54
        · have hf := x_t c_4 hf
          refine lv_bipush (v := 58) hx hb dX2_signAfter_47 (by decide) ?_
          refine lv_goto (tgt := 54) hx hb dX2_signAfter_49 (by decide) ?_
          have hf := Option.some.inj hf
          cases hf
          exact x_zret hx hb hr hlocks hK hP hD hS rfl dX2_signAfter_54
      · have hf := x_t c_3 hf
        refine lv_bipush (v := 59) hx hb dX2_signAfter_40 (by decide) ?_
        have hf := Option.some.inj hf
        cases hf
        exact x_zret hx hb hr hlocks hK hP hD hS rfl dX2_signAfter_42
  · have hf := x_t c_1 hf
    refine lv_iload_n hx hb dX2_signAfter_6 rfl (lv_at hl 1 rfl) ?_
    refine lv_if_ne (tgt := 15) hx hb dX2_signAfter_7 (by decide) (fun c_5 => ?_) (fun c_5 => ?_)
    · have hf := x_f c_5 hf
      refine lv_iload_n hx hb dX2_signAfter_15 rfl (lv_at hl 1 rfl) ?_
      refine lv_iconst (v := 1) hx hb dX2_signAfter_16 (by decide) ?_
      refine lv_icmp_ne (tgt := 25) hx hb dX2_signAfter_17 (by decide) (fun c_6 => ?_) (fun c_6 => ?_)
      · have hf := x_f c_6 hf
        refine lv_bipush (v := 59) hx hb dX2_signAfter_25 (by decide) ?_
        have hf := Option.some.inj hf
        cases hf
        exact x_zret hx hb hr hlocks hK hP hD hS rfl dX2_signAfter_27
      · have hf := x_t c_6 hf
        refine lv_bipush (v := 58) hx hb dX2_signAfter_20 (by decide) ?_
        refine lv_goto (tgt := 27) hx hb dX2_signAfter_22 (by decide) ?_
        have hf := Option.some.inj hf
        cases hf
        exact x_zret hx hb hr hlocks hK hP hD hS rfl dX2_signAfter_27
    · have hf := x_t c_5 hf
      refine lv_bipush (v := 62) hx hb dX2_signAfter_10 (by decide) ?_
      refine lv_goto (tgt := 27) hx hb dX2_signAfter_12 (by decide) ?_
      have hf := Option.some.inj hf
      cases hf
      exact x_zret hx hb hr hlocks hK hP hD hS rfl dX2_signAfter_27
theorem kdX2_startReading : yX2_startReading.cls = RX2 ∧ yX2_startReading.cls ≠ "java/lang/invoke/MethodHandle" ∧ yX2_startReading.cls ≠ "java/lang/invoke/VarHandle" ∧ (parseMethodDescriptor yX2_startReading.desc).map (fun d => d.parameters.length) = some 0 := by decide +kernel
def rmX2_startReading : Room := { frames := 0, cells := 0, slots := 0, locals := 0 }
set_option maxHeartbeats 4000000 in
set_option maxRecDepth 100000 in
theorem mX2_startReading (l : Launch) (D : va_G) (cy : Nat → ClassId) (a0 a1 : Nat) (le : Int32) (ch : Nat → Int32) (po : Int32) (ltr : Int32) (fi : Int32) (se : Int32) (th : Int32)  (po' : Int32) (hf : fX2_startReading po = some po') : xMv l D cy yX2_startReading aX2_startReading rmX2_startReading ([.ref a0] : List Value) (wX2 cy a0 a1 le ch po ltr fi se th) (wX2 cy a0 a1 le ch po' ltr fi se th) := by
  intro hz
  refine x_start (Qc := xQv D cy _) (cc := cX2_startReading) (maxL := 1) (ret := none) (by decide) rfl (Nat.le_of_ble_eq_true rfl) (lv := [(0, .ref a0)]) rfl ?_
  intro p e s m below meth c ls A hx hb hr hml hown hts hlocks hK hP hD hS hA hN hl
  have hown : s.vm.findClass RX2 = some m.cls := hown
  have hbg : ∀ w ∈ wsL_law, w ∈ aX2_startReading := fun w h => List.mem_cons_of_mem _ h
  have wd0 : (Cond.fieldLink RX2 19 "ClientMoneyBook$OrderText" "position" "I").before ([.ref a0] : List Value).toArray s = true := hts _ (List.mem_cons_of_mem _ wm_3_18)
  have iX2 : ∀ w ∈ u_ws RX2 TX2 7, w ∈ aX2_startReading := fun w h => List.mem_cons_of_mem _ (inlX2 w h)
  unfold fX2_startReading at hf
  refine lv_aload_n hx hb dX2_startReading_0 rfl (lv_at hl 0 rfl) ?_
  refine lv_iconst (v := 0) hx hb dX2_startReading_1 (by decide) ?_
  refine x_put hx hb (C := RX2) (T := TX2) (N := 7) (ci := 2) hts iX2 tyX2 tyX2_ok nmX2 hown hK hP hD hS 0 rfl rfl 2 (by decide) wd0 rfl rfl (ty := .int) rfl rfl rfl (Nat.le_of_ble_eq_true rfl) (w' := wX2 cy a0 a1 le ch 0 ltr fi se th) rfl dX2_startReading_2 (fun H locs hP hD hS => ?_)
  have hf := Option.some.inj hf
  cases hf
  exact x_vret hx hb hr hlocks hK hP hD hS dX2_startReading_5
theorem kdX2_readNumber : yX2_readNumber.cls = RX2 ∧ yX2_readNumber.cls ≠ "java/lang/invoke/MethodHandle" ∧ yX2_readNumber.cls ≠ "java/lang/invoke/VarHandle" ∧ (parseMethodDescriptor yX2_readNumber.desc).map (fun d => d.parameters.length) = some 0 := by decide +kernel
def rmX2_readNumber : Room := { frames := 1, cells := 0, slots := 0, locals := 21 }
set_option maxHeartbeats 4000000 in
set_option maxRecDepth 100000 in
theorem mX2_readNumber (l : Launch) (D : va_G) (cy : Nat → ClassId) (a0 a1 : Nat) (le : Int32) (ch : Nat → Int32) (po : Int32) (ltr : Int32) (fi : Int32) (se : Int32) (th : Int32)  (r : Int32) (po' : Int32) (hf : fX2_readNumber le ch po = some (r, po')) : xMi l D cy yX2_readNumber aX2_readNumber rmX2_readNumber ([.ref a0] : List Value) (wX2 cy a0 a1 le ch po ltr fi se th) (wX2 cy a0 a1 le ch po' ltr fi se th) r := by
  intro hz
  refine x_start (Qc := xQi D cy _ r) (cc := cX2_readNumber) (maxL := 3) (ret := (some .int)) (by decide) rfl (Nat.le_of_ble_eq_true rfl) (lv := [(0, .ref a0)]) rfl ?_
  intro p e s m below meth c ls A hx hb hr hml hown hts hlocks hK hP hD hS hA hN hl
  have hown : s.vm.findClass RX2 = some m.cls := hown
  have hbg : ∀ w ∈ wsL_law, w ∈ aX2_readNumber := fun w h => List.mem_cons_of_mem _ h
  have wd0 : (Cond.fieldLink RX2 19 "ClientMoneyBook$OrderText" "position" "I").before ([.ref a0] : List Value).toArray s = true := hts _ (List.mem_cons_of_mem _ wm_3_18)
  have iX2 : ∀ w ∈ u_ws RX2 TX2 7, w ∈ aX2_readNumber := fun w h => List.mem_cons_of_mem _ (inlX2 w h)
  unfold fX2_readNumber at hf
  refine lv_iconst (v := 0) hx hb dX2_readNumber_0 (by decide) ?_
  refine lv_istore_n (lv' := [(1, .int 0), (0, .ref a0)]) hx hb dX2_readNumber_1 rfl hl (by decide) rfl (fun ls hl => ?_)
  refine lv_aload_n hx hb dX2_readNumber_2 rfl (lv_at hl 1 rfl) ?_
  refine lv_dup hx hb dX2_readNumber_3 rfl ?_
  refine x_get hx hb (C := RX2) (T := TX2) (N := 7) (ci := 2) hts iX2 hown hK hP 0 rfl rfl 2 (by decide) wd0 rfl (.int po) rfl dX2_readNumber_4 ?_
  refine lv_iconst (v := 1) hx hb dX2_readNumber_7 (by decide) ?_
  refine lv_iadd hx hb dX2_readNumber_8 ?_
  obtain ⟨po_1, epo_1, hf⟩ := lt_el hf
  refine x_topi epo_1 ?_
  refine x_put hx hb (C := RX2) (T := TX2) (N := 7) (ci := 2) hts iX2 tyX2 tyX2_ok nmX2 hown hK hP hD hS 0 rfl rfl 2 (by decide) wd0 rfl rfl (ty := .int) rfl rfl rfl (Nat.le_of_ble_eq_true rfl) (w' := wX2 cy a0 a1 le ch po_1 ltr fi se th) rfl dX2_readNumber_9 (fun H locs hP hD hS => ?_)
  refine lv_iconst (v := 0) hx hb dX2_readNumber_12 (by decide) ?_
  refine lv_istore_n (lv' := [(2, .int 0), (1, .int 0), (0, .ref a0)]) hx hb dX2_readNumber_13 rfl hl (by decide) rfl (fun ls hl => ?_)
  have hL_14 : ∀ (n : Nat) (po_14 : Int32) (z1_15 : Int32) (z2_16 : Int32) (o : Int32 × Int32) (H : Heap) (locs : List Loc) (ls : Array Slot), fX2_readNumber_L14 le ch n po_14 z1_15 z2_16 = some o → va_P D vwCl (wX2 cy a0 a1 le ch po_14 ltr fi se th) H → va_D A (wX2 cy a0 a1 le ch po_14 ltr fi se th) → va_S A s.heap H locs → lv_has ls 3 [(0, .ref a0), (1, .int z1_15), (2, .int z2_16)] → True → ((∀ (po_17 : Int32) (x1_18 : Int32) , o = (po_17, x1_18) → ∀ (H : Heap) (locs : List Loc) (ls : Array Slot), va_P D vwCl (wX2 cy a0 a1 le ch po_17 ltr fi se th) H → va_D A (wX2 cy a0 a1 le ch po_17 ltr fi se th) → va_S A s.heap H locs → lv_has ls 3 [(1, .int x1_18)] → W p l e rmX2_readNumber s m ([.ref a0] : List Value).toArray below meth c H locs 0 0 (MQ below (xQi D cy (wX2 cy a0 a1 le ch po' ltr fi se th) r A) ([.ref a0] : List Value).toArray s 0 0 A) (F0 m 67 ls []))) → W p l e rmX2_readNumber s m ([.ref a0] : List Value).toArray below meth c H locs 0 0 (MQ below (xQi D cy (wX2 cy a0 a1 le ch po' ltr fi se th) r A) ([.ref a0] : List Value).toArray s 0 0 A) (F0 m 14 ls []) := by
    intro n
    induction n with
    | zero =>
      intro po_14 z1_15 z2_16 o_14 H locs ls hf
      rw [fX2_readNumber_L14] at hf
      cases hf
    | succ n ih =>
      intro po_14 z1_15 z2_16 o_14 H locs ls hf hP hD hS hl hr_14 kx_14
      rw [fX2_readNumber_L14] at hf
      refine lv_iload_n hx hb dX2_readNumber_14 rfl (lv_at hl 2 rfl) ?_
      refine lv_bipush (v := 6) hx hb dX2_readNumber_15 (by decide) ?_
      refine lv_icmp_ge (tgt := 67) hx hb dX2_readNumber_17 (by decide) (fun c_19 => ?_) (fun c_19 => ?_)
      · have hf := x_t c_19 hf
        exact kx_14 po_14 z1_15 (Option.some.inj hf).symm _ _ _ hP hD hS (lv_sub hl [1] rfl)
      · have hf := x_f c_19 hf
        refine lv_aload_n hx hb dX2_readNumber_20 rfl (lv_at hl 0 rfl) ?_
        refine lv_aload_n hx hb dX2_readNumber_21 rfl (lv_at hl 0 rfl) ?_
        refine x_get hx hb (C := RX2) (T := TX2) (N := 7) (ci := 2) hts iX2 hown hK hP 0 rfl rfl 2 (by decide) wd0 rfl (.int po_14) rfl dX2_readNumber_22 ?_
        obtain ⟨r_20, h_21, hf⟩ := bd1_el hf
        refine x_callVi (As := [.int po_14]) (rest := []) ⟨hx, hb, hml, hown, hts⟩ (mX2_at l D cy a0 a1 le ch po_14 ltr fi se th po_14 r_20 h_21) (cwV 1 hts (gcV_X2_at hbg wm_35_3) rfl rfl rfl kdX2_at ⟨Nat.le_of_ble_eq_true rfl, Nat.le_of_ble_eq_true rfl⟩) (w1 := []) (w2 := []) (w' := wX2 cy a0 a1 le ch po_14 ltr fi se th) (List.append_nil _) (List.append_nil _) hP hK hD hN hS hA (q0 := 0) rfl rfl rfl rfl hl rfl (Nat.le_of_ble_eq_true rfl) dX2_readNumber_25 ⟨Nat.zero_le _, Nat.zero_le _⟩ (fun H locs hP hD hS => ?_)
        obtain ⟨r_22, h_23, hf⟩ := bd1_el hf
        refine x_callSi (As := [.int r_20]) (rest := []) ⟨hx, hb, hml, hown, hts⟩ (mX2_isDigit l D cy   r_20 r_22 h_23) (va_cwS 1 hts (gcS_X2_isDigit hbg wm_38_21) rfl rfl rfl kdX2_isDigit ⟨Nat.le_of_ble_eq_true rfl, Nat.le_of_ble_eq_true rfl⟩) (w1 := []) (w2 := wX2 cy a0 a1 le ch po_14 ltr fi se th) (w' := wX2 cy a0 a1 le ch po_14 ltr fi se th) rfl rfl hP hK hD hN hS hA rfl hl rfl (Nat.le_of_ble_eq_true rfl) dX2_readNumber_28 ⟨Nat.zero_le _, Nat.zero_le _⟩ (fun H locs hP hD hS => ?_)
        refine lv_if_eq (tgt := 67) hx hb dX2_readNumber_31 (by decide) (fun c_24 => ?_) (fun c_24 => ?_)
        · have hf := x_t c_24 hf
          exact kx_14 po_14 z1_15 (Option.some.inj hf).symm _ _ _ hP hD hS (lv_sub hl [1] rfl)
        · have hf := x_f c_24 hf
          refine lv_iload_n hx hb dX2_readNumber_34 rfl (lv_at hl 1 rfl) ?_
          refine lv_bipush (v := 10) hx hb dX2_readNumber_35 (by decide) ?_
          refine lv_imul hx hb dX2_readNumber_37 ?_
          refine lv_aload_n hx hb dX2_readNumber_38 rfl (lv_at hl 0 rfl) ?_
          refine lv_aload_n hx hb dX2_readNumber_39 rfl (lv_at hl 0 rfl) ?_
          refine x_get hx hb (C := RX2) (T := TX2) (N := 7) (ci := 2) hts iX2 hown hK hP 0 rfl rfl 2 (by decide) wd0 rfl (.int po_14) rfl dX2_readNumber_40 ?_
          obtain ⟨r_25, h_26, hf⟩ := bd1_el hf
          refine x_callVi (As := [.int po_14]) (rest := [.int (z1_15 * 10)]) ⟨hx, hb, hml, hown, hts⟩ (mX2_at l D cy a0 a1 le ch po_14 ltr fi se th po_14 r_25 h_26) (cwV 1 hts (gcV_X2_at hbg wm_35_3) rfl rfl rfl kdX2_at ⟨Nat.le_of_ble_eq_true rfl, Nat.le_of_ble_eq_true rfl⟩) (w1 := []) (w2 := []) (w' := wX2 cy a0 a1 le ch po_14 ltr fi se th) (List.append_nil _) (List.append_nil _) hP hK hD hN hS hA (q0 := 0) rfl rfl rfl rfl hl rfl (Nat.le_of_ble_eq_true rfl) dX2_readNumber_43 ⟨Nat.zero_le _, Nat.zero_le _⟩ (fun H locs hP hD hS => ?_)
          refine lv_bipush (v := 48) hx hb dX2_readNumber_46 (by decide) ?_
          refine lv_isub hx hb dX2_readNumber_48 ?_
          refine lv_iadd hx hb dX2_readNumber_49 ?_
          obtain ⟨x1_27, ex1_27, hf⟩ := lt_el hf
          refine x_topi ex1_27 ?_
          refine lv_istore_n (lv' := [(1, .int x1_27), (0, .ref a0), (2, .int z2_16)]) hx hb dX2_readNumber_50 rfl hl (by decide) rfl (fun ls hl => ?_)
          refine lv_aload_n hx hb dX2_readNumber_51 rfl (lv_at hl 1 rfl) ?_
          refine lv_dup hx hb dX2_readNumber_52 rfl ?_
          refine x_get hx hb (C := RX2) (T := TX2) (N := 7) (ci := 2) hts iX2 hown hK hP 0 rfl rfl 2 (by decide) wd0 rfl (.int po_14) rfl dX2_readNumber_53 ?_
          refine lv_iconst (v := 1) hx hb dX2_readNumber_56 (by decide) ?_
          refine lv_iadd hx hb dX2_readNumber_57 ?_
          obtain ⟨po_28, epo_28, hf⟩ := lt_el hf
          refine x_topi epo_28 ?_
          refine x_put hx hb (C := RX2) (T := TX2) (N := 7) (ci := 2) hts iX2 tyX2 tyX2_ok nmX2 hown hK hP hD hS 0 rfl rfl 2 (by decide) wd0 rfl rfl (ty := .int) rfl rfl rfl (Nat.le_of_ble_eq_true rfl) (w' := wX2 cy a0 a1 le ch po_28 ltr fi se th) rfl dX2_readNumber_58 (fun H locs hP hD hS => ?_)
          refine lv_iinc (v := (z2_16 + 1)) (lv' := [(2, .int (z2_16 + 1)), (1, .int x1_27), (0, .ref a0)]) hx hb dX2_readNumber_61 hl (k := 2) rfl rfl (by decide) rfl (fun ls hl => ?_)
          refine lv_goto (tgt := 14) hx hb dX2_readNumber_64 (by decide) ?_
          exact ih po_28 x1_27 (z2_16 + 1) _ _ _ _ hf hP hD hS (lv_sub hl [2, 1, 0] rfl) hr_14 kx_14
  obtain ⟨po_12, x1_13, h1_14, hf⟩ := bd2_el hf
  refine hL_14 2147483648 po_1 0 0 _ _ _ _ h1_14 hP hD hS (lv_sub hl [2, 1, 0] rfl) trivial (fun po_129 x1_139 ho H locs ls hP hD hS hl => ?_)
  cases ho
  refine lv_iload_n hx hb dX2_readNumber_67 rfl (lv_at hl 0 rfl) ?_
  have hf := Option.some.inj hf
  cases hf
  exact x_iret hx hb hr hlocks hK hP hD hS dX2_readNumber_68
theorem kdX2_readOrder : yX2_readOrder.cls = RX2 ∧ yX2_readOrder.cls ≠ "java/lang/invoke/MethodHandle" ∧ yX2_readOrder.cls ≠ "java/lang/invoke/VarHandle" ∧ (parseMethodDescriptor yX2_readOrder.desc).map (fun d => d.parameters.length) = some 0 := by decide +kernel
def rmX2_readOrder : Room := { frames := 2, cells := 0, slots := 0, locals := 43 }
set_option maxHeartbeats 4000000 in
set_option maxRecDepth 100000 in
theorem mX2_readOrder (l : Launch) (D : va_G) (cy : Nat → ClassId) (a0 a1 : Nat) (le : Int32) (ch : Nat → Int32) (po : Int32) (ltr : Int32) (fi : Int32) (se : Int32) (th : Int32)  (r : Int32) (po' : Int32) (ltr' : Int32) (fi' : Int32) (se' : Int32) (th' : Int32) (hf : fX2_readOrder le ch po ltr fi se th = some (r, po', ltr', fi', se', th')) : xMi l D cy yX2_readOrder aX2_readOrder rmX2_readOrder ([.ref a0] : List Value) (wX2 cy a0 a1 le ch po ltr fi se th) (wX2 cy a0 a1 le ch po' ltr' fi' se' th') r := by
  intro hz
  refine x_start (Qc := xQi D cy _ r) (cc := cX2_readOrder) (maxL := 1) (ret := (some .boolean)) (by decide) rfl (Nat.le_of_ble_eq_true rfl) (lv := [(0, .ref a0)]) rfl ?_
  intro p e s m below meth c ls A hx hb hr hml hown hts hlocks hK hP hD hS hA hN hl
  have hown : s.vm.findClass RX2 = some m.cls := hown
  have hbg : ∀ w ∈ wsL_law, w ∈ aX2_readOrder := fun w h => List.mem_cons_of_mem _ h
  have wd0 : (Cond.fieldLink RX2 19 "ClientMoneyBook$OrderText" "position" "I").before ([.ref a0] : List Value).toArray s = true := hts _ (List.mem_cons_of_mem _ wm_3_18)
  have wd1 : (Cond.fieldLink RX2 9 "ClientMoneyBook$OrderText" "length" "I").before ([.ref a0] : List Value).toArray s = true := hts _ (List.mem_cons_of_mem _ wm_3_15)
  have wd2 : (Cond.fieldLink RX2 22 "ClientMoneyBook$OrderText" "letter" "C").before ([.ref a0] : List Value).toArray s = true := hts _ (List.mem_cons_of_mem _ wm_3_19)
  have wd3 : (Cond.fieldLink RX2 26 "ClientMoneyBook$OrderText" "first" "I").before ([.ref a0] : List Value).toArray s = true := hts _ (List.mem_cons_of_mem _ wm_3_20)
  have wd4 : (Cond.fieldLink RX2 29 "ClientMoneyBook$OrderText" "second" "I").before ([.ref a0] : List Value).toArray s = true := hts _ (List.mem_cons_of_mem _ wm_3_21)
  have wd5 : (Cond.fieldLink RX2 32 "ClientMoneyBook$OrderText" "third" "I").before ([.ref a0] : List Value).toArray s = true := hts _ (List.mem_cons_of_mem _ wm_3_22)
  have iX2 : ∀ w ∈ u_ws RX2 TX2 7, w ∈ aX2_readOrder := fun w h => List.mem_cons_of_mem _ (inlX2 w h)
  unfold fX2_readOrder at hf
  refine lv_aload_n hx hb dX2_readOrder_0 rfl (lv_at hl 0 rfl) ?_
  refine x_get hx hb (C := RX2) (T := TX2) (N := 7) (ci := 2) hts iX2 hown hK hP 0 rfl rfl 2 (by decide) wd0 rfl (.int po) rfl dX2_readOrder_1 ?_
  refine lv_aload_n hx hb dX2_readOrder_4 rfl (lv_at hl 0 rfl) ?_
  refine x_get hx hb (C := RX2) (T := TX2) (N := 7) (ci := 2) hts iX2 hown hK hP 0 rfl rfl 0 (by decide) wd1 rfl (.int le) rfl dX2_readOrder_5 ?_
  refine lv_icmp_lt (tgt := 13) hx hb dX2_readOrder_8 (by decide) (fun c_1 => ?_) (fun c_1 => ?_)
  · have hf := x_t c_1 hf
    refine lv_aload_n hx hb dX2_readOrder_13 rfl (lv_at hl 0 rfl) ?_
    refine lv_aload_n hx hb dX2_readOrder_14 rfl (lv_at hl 0 rfl) ?_
    refine lv_aload_n hx hb dX2_readOrder_15 rfl (lv_at hl 0 rfl) ?_
    refine x_get hx hb (C := RX2) (T := TX2) (N := 7) (ci := 2) hts iX2 hown hK hP 0 rfl rfl 2 (by decide) wd0 rfl (.int po) rfl dX2_readOrder_16 ?_
    obtain ⟨r_2, h_3, hf⟩ := bd1_el hf
    refine x_callVi (As := [.int po]) (rest := [.ref a0]) ⟨hx, hb, hml, hown, hts⟩ (mX2_at l D cy a0 a1 le ch po ltr fi se th po r_2 h_3) (cwV 1 hts (gcV_X2_at hbg wm_35_3) rfl rfl rfl kdX2_at ⟨Nat.le_of_ble_eq_true rfl, Nat.le_of_ble_eq_true rfl⟩) (w1 := []) (w2 := []) (w' := wX2 cy a0 a1 le ch po ltr fi se th) (List.append_nil _) (List.append_nil _) hP hK hD hN hS hA (q0 := 0) rfl rfl rfl rfl hl rfl (Nat.le_of_ble_eq_true rfl) dX2_readOrder_19 ⟨Nat.zero_le _, Nat.zero_le _⟩ (fun H locs hP hD hS => ?_)
    obtain ⟨hnr, hf⟩ := ckP_el hf
    refine x_put hx hb (C := RX2) (T := TX2) (N := 7) (ci := 2) hts iX2 tyX2 tyX2_ok nmX2 hown hK hP hD hS 0 rfl rfl 3 (by decide) wd2 rfl rfl (ty := .char) rfl hnr (x_fits_char hnr) (Nat.le_of_ble_eq_true rfl) (w' := wX2 cy a0 a1 le ch po r_2 fi se th) rfl dX2_readOrder_22 (fun H locs hP hD hS => ?_)
    refine lv_aload_n hx hb dX2_readOrder_25 rfl (lv_at hl 0 rfl) ?_
    refine lv_aload_n hx hb dX2_readOrder_26 rfl (lv_at hl 0 rfl) ?_
    obtain ⟨r_4, po_5, h_6, hf⟩ := bd2_el hf
    refine x_callVi (As := []) (rest := [.ref a0]) ⟨hx, hb, hml, hown, hts⟩ (mX2_readNumber l D cy a0 a1 le ch po r_2 fi se th  r_4 po_5 h_6) (cwV 0 hts (gcV_X2_readNumber hbg wm_40_21) rfl rfl rfl kdX2_readNumber ⟨Nat.le_of_ble_eq_true rfl, Nat.le_of_ble_eq_true rfl⟩) (w1 := []) (w2 := []) (w' := wX2 cy a0 a1 le ch po_5 r_2 fi se th) (List.append_nil _) (List.append_nil _) hP hK hD hN hS hA (q0 := 0) rfl rfl rfl rfl hl rfl (Nat.le_of_ble_eq_true rfl) dX2_readOrder_27 ⟨Nat.zero_le _, Nat.zero_le _⟩ (fun H locs hP hD hS => ?_)
    refine x_put hx hb (C := RX2) (T := TX2) (N := 7) (ci := 2) hts iX2 tyX2 tyX2_ok nmX2 hown hK hP hD hS 0 rfl rfl 4 (by decide) wd3 rfl rfl (ty := .int) rfl rfl rfl (Nat.le_of_ble_eq_true rfl) (w' := wX2 cy a0 a1 le ch po_5 r_2 r_4 se th) rfl dX2_readOrder_30 (fun H locs hP hD hS => ?_)
    refine lv_aload_n hx hb dX2_readOrder_33 rfl (lv_at hl 0 rfl) ?_
    refine lv_aload_n hx hb dX2_readOrder_34 rfl (lv_at hl 0 rfl) ?_
    refine x_get hx hb (C := RX2) (T := TX2) (N := 7) (ci := 2) hts iX2 hown hK hP 0 rfl rfl 3 (by decide) wd2 rfl (.int r_2) rfl dX2_readOrder_35 ?_
    refine lv_iconst (v := 0) hx hb dX2_readOrder_38 (by decide) ?_
    obtain ⟨r_7, h_8, hf⟩ := bd1_el hf
    refine x_callSi (As := [.int r_2, .int 0]) (rest := [.ref a0]) ⟨hx, hb, hml, hown, hts⟩ (mX2_signAfter l D cy   r_2 0 r_7 h_8) (va_cwS 2 hts (gcS_X2_signAfter hbg wm_39_0) rfl rfl rfl kdX2_signAfter ⟨Nat.le_of_ble_eq_true rfl, Nat.le_of_ble_eq_true rfl⟩) (w1 := []) (w2 := wX2 cy a0 a1 le ch po_5 r_2 r_4 se th) (w' := wX2 cy a0 a1 le ch po_5 r_2 r_4 se th) rfl rfl hP hK hD hN hS hA rfl hl rfl (Nat.le_of_ble_eq_true rfl) dX2_readOrder_39 ⟨Nat.zero_le _, Nat.zero_le _⟩ (fun H locs hP hD hS => ?_)
    refine lv_bipush (v := 59) hx hb dX2_readOrder_42 (by decide) ?_
    refine lv_icmp_ne (tgt := 51) hx hb dX2_readOrder_44 (by decide) (fun c_9 => ?_) (fun c_9 => ?_)
    · have hf := x_f c_9 hf
      refine lv_aload_n hx hb dX2_readOrder_51 rfl (lv_at hl 0 rfl) ?_
      obtain ⟨r_10, po_11, h_12, hf⟩ := bd2_el hf
      refine x_callVi (As := []) (rest := [.ref a0]) ⟨hx, hb, hml, hown, hts⟩ (mX2_readNumber l D cy a0 a1 le ch po_5 r_2 r_4 se th  r_10 po_11 h_12) (cwV 0 hts (gcV_X2_readNumber hbg wm_40_21) rfl rfl rfl kdX2_readNumber ⟨Nat.le_of_ble_eq_true rfl, Nat.le_of_ble_eq_true rfl⟩) (w1 := []) (w2 := []) (w' := wX2 cy a0 a1 le ch po_11 r_2 r_4 se th) (List.append_nil _) (List.append_nil _) hP hK hD hN hS hA (q0 := 0) rfl rfl rfl rfl hl rfl (Nat.le_of_ble_eq_true rfl) dX2_readOrder_52 ⟨Nat.zero_le _, Nat.zero_le _⟩ (fun H locs hP hD hS => ?_)
      refine x_put hx hb (C := RX2) (T := TX2) (N := 7) (ci := 2) hts iX2 tyX2 tyX2_ok nmX2 hown hK hP hD hS 0 rfl rfl 5 (by decide) wd4 rfl rfl (ty := .int) rfl rfl rfl (Nat.le_of_ble_eq_true rfl) (w' := wX2 cy a0 a1 le ch po_11 r_2 r_4 r_10 th) rfl dX2_readOrder_55 (fun H locs hP hD hS => ?_)
      refine lv_aload_n hx hb dX2_readOrder_58 rfl (lv_at hl 0 rfl) ?_
      refine lv_aload_n hx hb dX2_readOrder_59 rfl (lv_at hl 0 rfl) ?_
      refine x_get hx hb (C := RX2) (T := TX2) (N := 7) (ci := 2) hts iX2 hown hK hP 0 rfl rfl 3 (by decide) wd2 rfl (.int r_2) rfl dX2_readOrder_60 ?_
      refine lv_iconst (v := 1) hx hb dX2_readOrder_63 (by decide) ?_
      obtain ⟨r_13, h_14, hf⟩ := bd1_el hf
      refine x_callSi (As := [.int r_2, .int 1]) (rest := [.ref a0]) ⟨hx, hb, hml, hown, hts⟩ (mX2_signAfter l D cy   r_2 1 r_13 h_14) (va_cwS 2 hts (gcS_X2_signAfter hbg wm_39_0) rfl rfl rfl kdX2_signAfter ⟨Nat.le_of_ble_eq_true rfl, Nat.le_of_ble_eq_true rfl⟩) (w1 := []) (w2 := wX2 cy a0 a1 le ch po_11 r_2 r_4 r_10 th) (w' := wX2 cy a0 a1 le ch po_11 r_2 r_4 r_10 th) rfl rfl hP hK hD hN hS hA rfl hl rfl (Nat.le_of_ble_eq_true rfl) dX2_readOrder_64 ⟨Nat.zero_le _, Nat.zero_le _⟩ (fun H locs hP hD hS => ?_)
      refine lv_bipush (v := 59) hx hb dX2_readOrder_67 (by decide) ?_
      refine lv_icmp_ne (tgt := 76) hx hb dX2_readOrder_69 (by decide) (fun c_15 => ?_) (fun c_15 => ?_)
      · have hf := x_f c_15 hf
        refine lv_aload_n hx hb dX2_readOrder_76 rfl (lv_at hl 0 rfl) ?_
        obtain ⟨r_16, po_17, h_18, hf⟩ := bd2_el hf
        refine x_callVi (As := []) (rest := [.ref a0]) ⟨hx, hb, hml, hown, hts⟩ (mX2_readNumber l D cy a0 a1 le ch po_11 r_2 r_4 r_10 th  r_16 po_17 h_18) (cwV 0 hts (gcV_X2_readNumber hbg wm_40_21) rfl rfl rfl kdX2_readNumber ⟨Nat.le_of_ble_eq_true rfl, Nat.le_of_ble_eq_true rfl⟩) (w1 := []) (w2 := []) (w' := wX2 cy a0 a1 le ch po_17 r_2 r_4 r_10 th) (List.append_nil _) (List.append_nil _) hP hK hD hN hS hA (q0 := 0) rfl rfl rfl rfl hl rfl (Nat.le_of_ble_eq_true rfl) dX2_readOrder_77 ⟨Nat.zero_le _, Nat.zero_le _⟩ (fun H locs hP hD hS => ?_)
        refine x_put hx hb (C := RX2) (T := TX2) (N := 7) (ci := 2) hts iX2 tyX2 tyX2_ok nmX2 hown hK hP hD hS 0 rfl rfl 6 (by decide) wd5 rfl rfl (ty := .int) rfl rfl rfl (Nat.le_of_ble_eq_true rfl) (w' := wX2 cy a0 a1 le ch po_17 r_2 r_4 r_10 r_16) rfl dX2_readOrder_80 (fun H locs hP hD hS => ?_)
        refine lv_aload_n hx hb dX2_readOrder_83 rfl (lv_at hl 0 rfl) ?_
        refine lv_dup hx hb dX2_readOrder_84 rfl ?_
        refine x_get hx hb (C := RX2) (T := TX2) (N := 7) (ci := 2) hts iX2 hown hK hP 0 rfl rfl 2 (by decide) wd0 rfl (.int po_17) rfl dX2_readOrder_85 ?_
        refine lv_iconst (v := 1) hx hb dX2_readOrder_88 (by decide) ?_
        refine lv_iadd hx hb dX2_readOrder_89 ?_
        obtain ⟨po_19, epo_19, hf⟩ := lt_el hf
        refine x_topi epo_19 ?_
        refine x_put hx hb (C := RX2) (T := TX2) (N := 7) (ci := 2) hts iX2 tyX2 tyX2_ok nmX2 hown hK hP hD hS 0 rfl rfl 2 (by decide) wd0 rfl rfl (ty := .int) rfl rfl rfl (Nat.le_of_ble_eq_true rfl) (w' := wX2 cy a0 a1 le ch po_19 r_2 r_4 r_10 r_16) rfl dX2_readOrder_90 (fun H locs hP hD hS => ?_)
        refine lv_iconst (v := 1) hx hb dX2_readOrder_93 (by decide) ?_
        have hf := Option.some.inj hf
        cases hf
        exact x_zret hx hb hr hlocks hK hP hD hS rfl dX2_readOrder_94
      · have hf := x_t c_15 hf
        refine lv_iconst (v := 0) hx hb dX2_readOrder_72 (by decide) ?_
        refine lv_goto (tgt := 80) hx hb dX2_readOrder_73 (by decide) ?_
        refine x_put hx hb (C := RX2) (T := TX2) (N := 7) (ci := 2) hts iX2 tyX2 tyX2_ok nmX2 hown hK hP hD hS 0 rfl rfl 6 (by decide) wd5 rfl rfl (ty := .int) rfl rfl rfl (Nat.le_of_ble_eq_true rfl) (w' := wX2 cy a0 a1 le ch po_11 r_2 r_4 r_10 0) rfl dX2_readOrder_80 (fun H locs hP hD hS => ?_)
        refine lv_aload_n hx hb dX2_readOrder_83 rfl (lv_at hl 0 rfl) ?_
        refine lv_dup hx hb dX2_readOrder_84 rfl ?_
        refine x_get hx hb (C := RX2) (T := TX2) (N := 7) (ci := 2) hts iX2 hown hK hP 0 rfl rfl 2 (by decide) wd0 rfl (.int po_11) rfl dX2_readOrder_85 ?_
        refine lv_iconst (v := 1) hx hb dX2_readOrder_88 (by decide) ?_
        refine lv_iadd hx hb dX2_readOrder_89 ?_
        obtain ⟨po_20, epo_20, hf⟩ := lt_el hf
        refine x_topi epo_20 ?_
        refine x_put hx hb (C := RX2) (T := TX2) (N := 7) (ci := 2) hts iX2 tyX2 tyX2_ok nmX2 hown hK hP hD hS 0 rfl rfl 2 (by decide) wd0 rfl rfl (ty := .int) rfl rfl rfl (Nat.le_of_ble_eq_true rfl) (w' := wX2 cy a0 a1 le ch po_20 r_2 r_4 r_10 0) rfl dX2_readOrder_90 (fun H locs hP hD hS => ?_)
        refine lv_iconst (v := 1) hx hb dX2_readOrder_93 (by decide) ?_
        have hf := Option.some.inj hf
        cases hf
        exact x_zret hx hb hr hlocks hK hP hD hS rfl dX2_readOrder_94
    · have hf := x_t c_9 hf
      refine lv_iconst (v := 0) hx hb dX2_readOrder_47 (by decide) ?_
      refine lv_goto (tgt := 55) hx hb dX2_readOrder_48 (by decide) ?_
      refine x_put hx hb (C := RX2) (T := TX2) (N := 7) (ci := 2) hts iX2 tyX2 tyX2_ok nmX2 hown hK hP hD hS 0 rfl rfl 5 (by decide) wd4 rfl rfl (ty := .int) rfl rfl rfl (Nat.le_of_ble_eq_true rfl) (w' := wX2 cy a0 a1 le ch po_5 r_2 r_4 0 th) rfl dX2_readOrder_55 (fun H locs hP hD hS => ?_)
      refine lv_aload_n hx hb dX2_readOrder_58 rfl (lv_at hl 0 rfl) ?_
      refine lv_aload_n hx hb dX2_readOrder_59 rfl (lv_at hl 0 rfl) ?_
      refine x_get hx hb (C := RX2) (T := TX2) (N := 7) (ci := 2) hts iX2 hown hK hP 0 rfl rfl 3 (by decide) wd2 rfl (.int r_2) rfl dX2_readOrder_60 ?_
      refine lv_iconst (v := 1) hx hb dX2_readOrder_63 (by decide) ?_
      obtain ⟨r_21, h_22, hf⟩ := bd1_el hf
      refine x_callSi (As := [.int r_2, .int 1]) (rest := [.ref a0]) ⟨hx, hb, hml, hown, hts⟩ (mX2_signAfter l D cy   r_2 1 r_21 h_22) (va_cwS 2 hts (gcS_X2_signAfter hbg wm_39_0) rfl rfl rfl kdX2_signAfter ⟨Nat.le_of_ble_eq_true rfl, Nat.le_of_ble_eq_true rfl⟩) (w1 := []) (w2 := wX2 cy a0 a1 le ch po_5 r_2 r_4 0 th) (w' := wX2 cy a0 a1 le ch po_5 r_2 r_4 0 th) rfl rfl hP hK hD hN hS hA rfl hl rfl (Nat.le_of_ble_eq_true rfl) dX2_readOrder_64 ⟨Nat.zero_le _, Nat.zero_le _⟩ (fun H locs hP hD hS => ?_)
      refine lv_bipush (v := 59) hx hb dX2_readOrder_67 (by decide) ?_
      refine lv_icmp_ne (tgt := 76) hx hb dX2_readOrder_69 (by decide) (fun c_23 => ?_) (fun c_23 => ?_)
      · have hf := x_f c_23 hf
        refine lv_aload_n hx hb dX2_readOrder_76 rfl (lv_at hl 0 rfl) ?_
        obtain ⟨r_24, po_25, h_26, hf⟩ := bd2_el hf
        refine x_callVi (As := []) (rest := [.ref a0]) ⟨hx, hb, hml, hown, hts⟩ (mX2_readNumber l D cy a0 a1 le ch po_5 r_2 r_4 0 th  r_24 po_25 h_26) (cwV 0 hts (gcV_X2_readNumber hbg wm_40_21) rfl rfl rfl kdX2_readNumber ⟨Nat.le_of_ble_eq_true rfl, Nat.le_of_ble_eq_true rfl⟩) (w1 := []) (w2 := []) (w' := wX2 cy a0 a1 le ch po_25 r_2 r_4 0 th) (List.append_nil _) (List.append_nil _) hP hK hD hN hS hA (q0 := 0) rfl rfl rfl rfl hl rfl (Nat.le_of_ble_eq_true rfl) dX2_readOrder_77 ⟨Nat.zero_le _, Nat.zero_le _⟩ (fun H locs hP hD hS => ?_)
        refine x_put hx hb (C := RX2) (T := TX2) (N := 7) (ci := 2) hts iX2 tyX2 tyX2_ok nmX2 hown hK hP hD hS 0 rfl rfl 6 (by decide) wd5 rfl rfl (ty := .int) rfl rfl rfl (Nat.le_of_ble_eq_true rfl) (w' := wX2 cy a0 a1 le ch po_25 r_2 r_4 0 r_24) rfl dX2_readOrder_80 (fun H locs hP hD hS => ?_)
        refine lv_aload_n hx hb dX2_readOrder_83 rfl (lv_at hl 0 rfl) ?_
        refine lv_dup hx hb dX2_readOrder_84 rfl ?_
        refine x_get hx hb (C := RX2) (T := TX2) (N := 7) (ci := 2) hts iX2 hown hK hP 0 rfl rfl 2 (by decide) wd0 rfl (.int po_25) rfl dX2_readOrder_85 ?_
        refine lv_iconst (v := 1) hx hb dX2_readOrder_88 (by decide) ?_
        refine lv_iadd hx hb dX2_readOrder_89 ?_
        obtain ⟨po_27, epo_27, hf⟩ := lt_el hf
        refine x_topi epo_27 ?_
        refine x_put hx hb (C := RX2) (T := TX2) (N := 7) (ci := 2) hts iX2 tyX2 tyX2_ok nmX2 hown hK hP hD hS 0 rfl rfl 2 (by decide) wd0 rfl rfl (ty := .int) rfl rfl rfl (Nat.le_of_ble_eq_true rfl) (w' := wX2 cy a0 a1 le ch po_27 r_2 r_4 0 r_24) rfl dX2_readOrder_90 (fun H locs hP hD hS => ?_)
        refine lv_iconst (v := 1) hx hb dX2_readOrder_93 (by decide) ?_
        have hf := Option.some.inj hf
        cases hf
        exact x_zret hx hb hr hlocks hK hP hD hS rfl dX2_readOrder_94
      · have hf := x_t c_23 hf
        refine lv_iconst (v := 0) hx hb dX2_readOrder_72 (by decide) ?_
        refine lv_goto (tgt := 80) hx hb dX2_readOrder_73 (by decide) ?_
        refine x_put hx hb (C := RX2) (T := TX2) (N := 7) (ci := 2) hts iX2 tyX2 tyX2_ok nmX2 hown hK hP hD hS 0 rfl rfl 6 (by decide) wd5 rfl rfl (ty := .int) rfl rfl rfl (Nat.le_of_ble_eq_true rfl) (w' := wX2 cy a0 a1 le ch po_5 r_2 r_4 0 0) rfl dX2_readOrder_80 (fun H locs hP hD hS => ?_)
        refine lv_aload_n hx hb dX2_readOrder_83 rfl (lv_at hl 0 rfl) ?_
        refine lv_dup hx hb dX2_readOrder_84 rfl ?_
        refine x_get hx hb (C := RX2) (T := TX2) (N := 7) (ci := 2) hts iX2 hown hK hP 0 rfl rfl 2 (by decide) wd0 rfl (.int po_5) rfl dX2_readOrder_85 ?_
        refine lv_iconst (v := 1) hx hb dX2_readOrder_88 (by decide) ?_
        refine lv_iadd hx hb dX2_readOrder_89 ?_
        obtain ⟨po_28, epo_28, hf⟩ := lt_el hf
        refine x_topi epo_28 ?_
        refine x_put hx hb (C := RX2) (T := TX2) (N := 7) (ci := 2) hts iX2 tyX2 tyX2_ok nmX2 hown hK hP hD hS 0 rfl rfl 2 (by decide) wd0 rfl rfl (ty := .int) rfl rfl rfl (Nat.le_of_ble_eq_true rfl) (w' := wX2 cy a0 a1 le ch po_28 r_2 r_4 0 0) rfl dX2_readOrder_90 (fun H locs hP hD hS => ?_)
        refine lv_iconst (v := 1) hx hb dX2_readOrder_93 (by decide) ?_
        have hf := Option.some.inj hf
        cases hf
        exact x_zret hx hb hr hlocks hK hP hD hS rfl dX2_readOrder_94
  · have hf := x_f c_1 hf
    refine lv_iconst (v := 0) hx hb dX2_readOrder_11 (by decide) ?_
    have hf := Option.some.inj hf
    cases hf
    exact x_zret hx hb hr hlocks hK hP hD hS rfl dX2_readOrder_12
