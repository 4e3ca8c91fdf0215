theorem kdX8_isEntry : yX8_isEntry.cls = RX8 ∧ yX8_isEntry.cls ≠ "java/lang/invoke/MethodHandle" ∧ yX8_isEntry.cls ≠ "java/lang/invoke/VarHandle" ∧ (parseMethodDescriptor yX8_isEntry.desc).map (fun d => d.parameters.length) = some 1 := by decide +kernel
def rmX8_isEntry : Room := { frames := 1, cells := 0, slots := 0, locals := 22 }
set_option maxHeartbeats 4000000 in
set_option maxRecDepth 100000 in
theorem mX8_isEntry (l : Launch) (D : va_G) (cy : Nat → ClassId) (a0 a1 a2 a3 a4 a5 a6 : Nat) (st : Nat → Int32) (gr : Nat → Int64) (hi : Nat → Int32) (gh : Nat → Int64) (rc : Int32) (tx : Nat → Int32) (tl : Int32) (rk : Nat → Int32) (tb : Int32) (tk : Int64) (at_ : Int32) (ltr : Int32) (on_ : Int32) (tw : Int32) (th : Int32) (nu : Int32) (p1 : Int32) (r : Int32) (hf : fX8_isEntry st p1 = some r) : xMi l D cy yX8_isEntry aX8_isEntry rmX8_isEntry ([.ref a0, .int p1] : List Value) (wX8 cy a0 a1 a2 a3 a4 a5 a6 st gr hi gh rc tx tl rk tb tk at_ ltr on_ tw th nu) (wX8 cy a0 a1 a2 a3 a4 a5 a6 st gr hi gh rc tx tl rk tb tk at_ ltr on_ tw th nu) r := by
  intro hz
  refine x_start (Qc := xQi D cy _ r) (cc := cX8_isEntry) (maxL := 2) (ret := (some .boolean)) (by decide) rfl (Nat.le_of_ble_eq_true rfl) (lv := [(0, .ref a0), (1, .int p1)]) rfl ?_
  intro p e s m below meth c ls A hx hb hr hml hown hts hlocks hK hP hD hS hA hN hl
  have hown : s.vm.findClass RX8 = some m.cls := hown
  have hbg : ∀ w ∈ wsL_law, w ∈ aX8_isEntry := fun w h => List.mem_cons_of_mem _ h
  have wd0 : (Cond.fieldLink RX8 7 "ClientMoneyBookModel" "state" "[I").before ([.ref a0, .int p1] : List Value).toArray s = true := hts _ (List.mem_cons_of_mem _ wm_4_9)
  have iX8 : ∀ w ∈ u_ws RX8 TX8 16, w ∈ aX8_isEntry := fun w h => List.mem_cons_of_mem _ (inlX8 w h)
  unfold fX8_isEntry at hf
  refine lv_iload_n hx hb dX8_isEntry_0 rfl (lv_at hl 1 rfl) ?_
  refine lv_iconst (v := 1) hx hb dX8_isEntry_1 (by decide) ?_
  refine lv_aload_n hx hb dX8_isEntry_2 rfl (lv_at hl 0 rfl) ?_
  refine x_get hx hb (C := RX8) (T := TX8) (N := 16) (ci := 8) hts iX8 hown hK hP 0 rfl rfl 0 (by decide) wd0 rfl (.ref a1) rfl dX8_isEntry_3 ?_
  refine lv_bipush (v := 10) hx hb dX8_isEntry_6 (by decide) ?_
  obtain ⟨hi_1, hf⟩ := ckI_el hf
  refine va_iald hx hb hK hP 1 1 rfl rfl hi_1 dX8_isEntry_8 ?_
  obtain ⟨r_2, h_3, hf⟩ := bd1_el hf
  refine x_callSi (As := [.int p1, .int 1, .int (st (10 : Int32).toNatClampNeg)]) (rest := []) ⟨hx, hb, hml, hown, hts⟩ (mX8_within l D cy   p1 1 (st (10 : Int32).toNatClampNeg) r_2 h_3) (va_cwS 3 hts (gcS_X8_within hbg wm_7_0) rfl rfl rfl kdX8_within ⟨Nat.le_of_ble_eq_true rfl, Nat.le_of_ble_eq_true rfl⟩) (w1 := []) (w2 := wX8 cy a0 a1 a2 a3 a4 a5 a6 st gr hi gh rc tx tl rk tb tk at_ ltr on_ tw th nu) (w' := wX8 cy a0 a1 a2 a3 a4 a5 a6 st gr hi gh rc tx tl rk tb tk at_ ltr on_ tw th nu) rfl rfl hP hK hD hN hS hA rfl hl rfl (Nat.le_of_ble_eq_true rfl) dX8_isEntry_9 ⟨Nat.zero_le _, Nat.zero_le _⟩ (fun H locs hP hD hS => ?_)
  refine lv_if_eq (tgt := 33) hx hb dX8_isEntry_12 (by decide) (fun c_4 => ?_) (fun c_4 => ?_)
  · have hf := x_t c_4 hf
    refine lv_iconst (v := 0) hx hb dX8_isEntry_33 (by decide) ?_
    have hf := Option.some.inj hf
    cases hf
    exact x_zret hx hb hr hlocks hK hP hD hS rfl dX8_isEntry_34
  · have hf := x_f c_4 hf
    refine lv_iload_n hx hb dX8_isEntry_15 rfl (lv_at hl 1 rfl) ?_
    refine lv_aload_n hx hb dX8_isEntry_16 rfl (lv_at hl 0 rfl) ?_
    refine x_get hx hb (C := RX8) (T := TX8) (N := 16) (ci := 8) hts iX8 hown hK hP 0 rfl rfl 0 (by decide) wd0 rfl (.ref a1) rfl dX8_isEntry_17 ?_
    refine lv_bipush (v := 10) hx hb dX8_isEntry_20 (by decide) ?_
    obtain ⟨hi_5, hf⟩ := ckI_el hf
    refine va_iald hx hb hK hP 1 1 rfl rfl hi_5 dX8_isEntry_22 ?_
    refine lv_bipush (v := 24) hx hb dX8_isEntry_23 (by decide) ?_
    refine lv_isub hx hb dX8_isEntry_25 ?_
    refine lv_icmp_le (tgt := 33) hx hb dX8_isEntry_26 (by decide) (fun c_6 => ?_) (fun c_6 => ?_)
    · have hf := x_t c_6 hf
      refine lv_iconst (v := 0) hx hb dX8_isEntry_33 (by decide) ?_
      have hf := Option.some.inj hf
      cases hf
      exact x_zret hx hb hr hlocks hK hP hD hS rfl dX8_isEntry_34
    · have hf := x_f c_6 hf
      refine lv_iconst (v := 1) hx hb dX8_isEntry_29 (by decide) ?_
      refine lv_goto (tgt := 34) hx hb dX8_isEntry_30 (by decide) ?_
      have hf := Option.some.inj hf
      cases hf
      exact x_zret hx hb hr hlocks hK hP hD hS rfl dX8_isEntry_34
theorem kdX8_entryPart : yX8_entryPart.cls = RX8 ∧ yX8_entryPart.cls ≠ "java/lang/invoke/MethodHandle" ∧ yX8_entryPart.cls ≠ "java/lang/invoke/VarHandle" ∧ (parseMethodDescriptor yX8_entryPart.desc).map (fun d => d.parameters.length) = some 2 := by decide +kernel
def rmX8_entryPart : Room := { frames := 0, cells := 0, slots := 0, locals := 0 }
set_option maxHeartbeats 4000000 in
set_option maxRecDepth 100000 in
theorem mX8_entryPart (l : Launch) (D : va_G) (cy : Nat → ClassId) (a0 a1 a2 a3 a4 a5 a6 : Nat) (st : Nat → Int32) (gr : Nat → Int64) (hi : Nat → Int32) (gh : Nat → Int64) (rc : Int32) (tx : Nat → Int32) (tl : Int32) (rk : Nat → Int32) (tb : Int32) (tk : Int64) (at_ : Int32) (ltr : Int32) (on_ : Int32) (tw : Int32) (th : Int32) (nu : Int32) (p1 : Int32) (p2 : Int32) (r : Int32) (hf : fX8_entryPart st p1 p2 = some r) : xMi l D cy yX8_entryPart aX8_entryPart rmX8_entryPart ([.ref a0, .int p1, .int p2] : List Value) (wX8 cy a0 a1 a2 a3 a4 a5 a6 st gr hi gh rc tx tl rk tb tk at_ ltr on_ tw th nu) (wX8 cy a0 a1 a2 a3 a4 a5 a6 st gr hi gh rc tx tl rk tb tk at_ ltr on_ tw th nu) r := by
  intro hz
  refine x_start (Qc := xQi D cy _ r) (cc := cX8_entryPart) (maxL := 3) (ret := (some .int)) (by decide) rfl (Nat.le_of_ble_eq_true rfl) (lv := [(0, .ref a0), (1, .int p1), (2, .int p2)]) rfl ?_
  intro p e s m below meth c ls A hx hb hr hml hown hts hlocks hK hP hD hS hA hN hl
  have hown : s.vm.findClass RX8 = some m.cls := hown
  have hbg : ∀ w ∈ wsL_law, w ∈ aX8_entryPart := fun w h => List.mem_cons_of_mem _ h
  have wd0 : (Cond.fieldLink RX8 7 "ClientMoneyBookModel" "state" "[I").before ([.ref a0, .int p1, .int p2] : List Value).toArray s = true := hts _ (List.mem_cons_of_mem _ wm_4_9)
  have iX8 : ∀ w ∈ u_ws RX8 TX8 16, w ∈ aX8_entryPart := fun w h => List.mem_cons_of_mem _ (inlX8 w h)
  unfold fX8_entryPart at hf
  refine lv_aload_n hx hb dX8_entryPart_0 rfl (lv_at hl 0 rfl) ?_
  refine x_get hx hb (C := RX8) (T := TX8) (N := 16) (ci := 8) hts iX8 hown hK hP 0 rfl rfl 0 (by decide) wd0 rfl (.ref a1) rfl dX8_entryPart_1 ?_
  refine lv_sipush (v := 168) hx hb dX8_entryPart_4 (by decide) ?_
  refine lv_bipush (v := 7) hx hb dX8_entryPart_7 (by decide) ?_
  refine lv_iload_n hx hb dX8_entryPart_9 rfl (lv_at hl 1 rfl) ?_
  refine lv_iconst (v := 1) hx hb dX8_entryPart_10 (by decide) ?_
  refine lv_isub hx hb dX8_entryPart_11 ?_
  refine lv_bipush (v := 24) hx hb dX8_entryPart_12 (by decide) ?_
  refine lv_irem hx hb dX8_entryPart_14 (by decide) ?_
  refine lv_imul hx hb dX8_entryPart_15 ?_
  refine lv_iadd hx hb dX8_entryPart_16 ?_
  refine lv_iload_n hx hb dX8_entryPart_17 rfl (lv_at hl 2 rfl) ?_
  refine lv_iadd hx hb dX8_entryPart_18 ?_
  obtain ⟨hi_1, hf⟩ := ckI_el hf
  refine va_iald hx hb hK hP 1 1 rfl rfl hi_1 dX8_entryPart_19 ?_
  have hf := Option.some.inj hf
  cases hf
  exact x_iret hx hb hr hlocks hK hP hD hS dX8_entryPart_20
theorem kdX8_setRates : yX8_setRates.cls = RX8 ∧ yX8_setRates.cls ≠ "java/lang/invoke/MethodHandle" ∧ yX8_setRates.cls ≠ "java/lang/invoke/VarHandle" ∧ (parseMethodDescriptor yX8_setRates.desc).map (fun d => d.parameters.length) = some 3 := by decide +kernel
def rmX8_setRates : Room := { frames := 1, cells := 0, slots := 0, locals := 22 }
set_option maxHeartbeats 4000000 in
set_option maxRecDepth 100000 in
theorem mX8_setRates (l : Launch) (D : va_G) (cy : Nat → ClassId) (a0 a1 a2 a3 a4 a5 a6 : Nat) (st : Nat → Int32) (gr : Nat → Int64) (hi : Nat → Int32) (gh : Nat → Int64) (rc : Int32) (tx : Nat → Int32) (tl : Int32) (rk : Nat → Int32) (tb : Int32) (tk : Int64) (at_ : Int32) (ltr : Int32) (on_ : Int32) (tw : Int32) (th : Int32) (nu : Int32) (p1 : Int32) (p2 : Int32) (p3 : Int32) (r : Int32) (st' : Nat → Int32) (hi' : Nat → Int32) (gh' : Nat → Int64) (rc' : Int32) (hf : fX8_setRates st gr hi gh rc p1 p2 p3 = some (r, st', hi', gh', rc')) : xMi l D cy yX8_setRates aX8_setRates rmX8_setRates ([.ref a0, .int p1, .int p2, .int p3] : List Value) (wX8 cy a0 a1 a2 a3 a4 a5 a6 st gr hi gh rc tx tl rk tb tk at_ ltr on_ tw th nu) (wX8 cy a0 a1 a2 a3 a4 a5 a6 st' gr hi' gh' rc' tx tl rk tb tk at_ ltr on_ tw th nu) r := by
  intro hz
  refine x_start (Qc := xQi D cy _ r) (cc := cX8_setRates) (maxL := 5) (ret := (some .int)) (by decide) rfl (Nat.le_of_ble_eq_true rfl) (lv := [(0, .ref a0), (1, .int p1), (2, .int p2), (3, .int p3)]) rfl ?_
  intro p e s m below meth c ls A hx hb hr hml hown hts hlocks hK hP hD hS hA hN hl
  have hown : s.vm.findClass RX8 = some m.cls := hown
  have hbg : ∀ w ∈ wsL_law, w ∈ aX8_setRates := fun w h => List.mem_cons_of_mem _ h
  have wd0 : (Cond.constant RX8 71 (1000000000)).before ([.ref a0, .int p1, .int p2, .int p3] : List Value).toArray s = true := hts _ (List.mem_cons_of_mem _ wm_6_23)
  have wd1 : (Cond.fieldLink RX8 7 "ClientMoneyBookModel" "state" "[I").before ([.ref a0, .int p1, .int p2, .int p3] : List Value).toArray s = true := hts _ (List.mem_cons_of_mem _ wm_4_9)
  have iX8 : ∀ w ∈ u_ws RX8 TX8 16, w ∈ aX8_setRates := fun w h => List.mem_cons_of_mem _ (inlX8 w h)
  unfold fX8_setRates at hf
  refine lv_iload_n hx hb dX8_setRates_0 rfl (lv_at hl 1 rfl) ?_
  refine lv_iconst (v := 0) hx hb dX8_setRates_1 (by decide) ?_
  refine lv_ldc hx hb hown wd0 dX8_setRates_2 ?_
  obtain ⟨r_1, h_2, hf⟩ := bd1_el hf
  refine x_callSi (As := [.int p1, .int 0, .int 1000000000]) (rest := []) ⟨hx, hb, hml, hown, hts⟩ (mX8_within l D cy   p1 0 1000000000 r_1 h_2) (va_cwS 3 hts (gcS_X8_within hbg wm_7_0) rfl rfl rfl kdX8_within ⟨Nat.le_of_ble_eq_true rfl, Nat.le_of_ble_eq_true rfl⟩) (w1 := []) (w2 := wX8 cy a0 a1 a2 a3 a4 a5 a6 st gr hi gh rc tx tl rk tb tk at_ ltr on_ tw th nu) (w' := wX8 cy a0 a1 a2 a3 a4 a5 a6 st gr hi gh rc tx tl rk tb tk at_ ltr on_ tw th nu) rfl rfl hP hK hD hN hS hA rfl hl rfl (Nat.le_of_ble_eq_true rfl) dX8_setRates_4 ⟨Nat.zero_le _, Nat.zero_le _⟩ (fun H locs hP hD hS => ?_)
  refine lv_if_eq (tgt := 32) hx hb dX8_setRates_7 (by decide) (fun c_3 => ?_) (fun c_3 => ?_)
  · have hf := x_t c_3 hf
    refine lv_bipush (v := (-2)) hx hb dX8_setRates_32 (by decide) ?_
    have hf := Option.some.inj hf
    cases hf
    exact x_iret hx hb hr hlocks hK hP hD hS dX8_setRates_34
  · have hf := x_f c_3 hf
    refine lv_iload_n hx hb dX8_setRates_10 rfl (lv_at hl 2 rfl) ?_
    refine lv_iconst (v := 0) hx hb dX8_setRates_11 (by decide) ?_
    refine lv_sipush (v := 2000) hx hb dX8_setRates_12 (by decide) ?_
    obtain ⟨r_4, h_5, hf⟩ := bd1_el hf
    refine x_callSi (As := [.int p2, .int 0, .int 2000]) (rest := []) ⟨hx, hb, hml, hown, hts⟩ (mX8_within l D cy   p2 0 2000 r_4 h_5) (va_cwS 3 hts (gcS_X8_within hbg wm_7_0) rfl rfl rfl kdX8_within ⟨Nat.le_of_ble_eq_true rfl, Nat.le_of_ble_eq_true rfl⟩) (w1 := []) (w2 := wX8 cy a0 a1 a2 a3 a4 a5 a6 st gr hi gh rc tx tl rk tb tk at_ ltr on_ tw th nu) (w' := wX8 cy a0 a1 a2 a3 a4 a5 a6 st gr hi gh rc tx tl rk tb tk at_ ltr on_ tw th nu) rfl rfl hP hK hD hN hS hA rfl hl rfl (Nat.le_of_ble_eq_true rfl) dX8_setRates_15 ⟨Nat.zero_le _, Nat.zero_le _⟩ (fun H locs hP hD hS => ?_)
    refine lv_if_eq (tgt := 32) hx hb dX8_setRates_18 (by decide) (fun c_6 => ?_) (fun c_6 => ?_)
    · have hf := x_t c_6 hf
      refine lv_bipush (v := (-2)) hx hb dX8_setRates_32 (by decide) ?_
      have hf := Option.some.inj hf
      cases hf
      exact x_iret hx hb hr hlocks hK hP hD hS dX8_setRates_34
    · have hf := x_f c_6 hf
      refine lv_iload_n hx hb dX8_setRates_21 rfl (lv_at hl 3 rfl) ?_
      refine lv_iconst (v := 0) hx hb dX8_setRates_22 (by decide) ?_
      refine lv_sipush (v := 2000) hx hb dX8_setRates_23 (by decide) ?_
      obtain ⟨r_7, h_8, hf⟩ := bd1_el hf
      refine x_callSi (As := [.int p3, .int 0, .int 2000]) (rest := []) ⟨hx, hb, hml, hown, hts⟩ (mX8_within l D cy   p3 0 2000 r_7 h_8) (va_cwS 3 hts (gcS_X8_within hbg wm_7_0) rfl rfl rfl kdX8_within ⟨Nat.le_of_ble_eq_true rfl, Nat.le_of_ble_eq_true rfl⟩) (w1 := []) (w2 := wX8 cy a0 a1 a2 a3 a4 a5 a6 st gr hi gh rc tx tl rk tb tk at_ ltr on_ tw th nu) (w' := wX8 cy a0 a1 a2 a3 a4 a5 a6 st gr hi gh rc tx tl rk tb tk at_ ltr on_ tw th nu) rfl rfl hP hK hD hN hS hA rfl hl rfl (Nat.le_of_ble_eq_true rfl) dX8_setRates_26 ⟨Nat.zero_le _, Nat.zero_le _⟩ (fun H locs hP hD hS => ?_)
      refine lv_if_ne (tgt := 35) hx hb dX8_setRates_29 (by decide) (fun c_9 => ?_) (fun c_9 => ?_)
      · have hf := x_f c_9 hf
        refine lv_aload_n hx hb dX8_setRates_35 rfl (lv_at hl 0 rfl) ?_
        obtain ⟨hi_10, gh_11, rc_12, h_13, hf⟩ := bd3_el hf
        refine x_callVv (As := []) (rest := []) ⟨hx, hb, hml, hown, hts⟩ (mX8_record l D cy a0 a1 a2 a3 a4 a5 a6 st gr hi gh rc tx tl rk tb tk at_ ltr on_ tw th nu  hi_10 gh_11 rc_12 h_13) (cwV 0 hts (gcV_X8_record hbg wm_7_3) rfl rfl rfl kdX8_record ⟨Nat.le_of_ble_eq_true rfl, Nat.le_of_ble_eq_true rfl⟩) (w1 := []) (w2 := []) (w' := wX8 cy a0 a1 a2 a3 a4 a5 a6 st gr hi_10 gh_11 rc_12 tx tl rk tb tk at_ ltr on_ tw th nu) (List.append_nil _) (List.append_nil _) hP hK hD hN hS hA (q0 := 0) rfl rfl rfl rfl hl rfl (Nat.le_of_ble_eq_true rfl) dX8_setRates_36 ⟨Nat.zero_le _, Nat.zero_le _⟩ (fun H locs hP hD hS => ?_)
        refine lv_aload_n hx hb dX8_setRates_39 rfl (lv_at hl 0 rfl) ?_
        refine x_get hx hb (C := RX8) (T := TX8) (N := 16) (ci := 8) hts iX8 hown hK hP 0 rfl rfl 0 (by decide) wd1 rfl (.ref a1) rfl dX8_setRates_40 ?_
        refine lv_iconst (v := 1) hx hb dX8_setRates_43 (by decide) ?_
        obtain ⟨hi_14, hf⟩ := ckI_el hf
        refine va_iald hx hb hK hP 1 1 rfl rfl hi_14 dX8_setRates_44 ?_
        obtain ⟨x4_15, ex4_15, hf⟩ := lt_el hf
        refine x_topi ex4_15 ?_
        refine lv_istore (lv' := [(4, .int x4_15), (0, .ref a0), (1, .int p1), (2, .int p2), (3, .int p3)]) hx hb dX8_setRates_45 hl (by decide) rfl (fun ls hl => ?_)
        refine lv_aload_n hx hb dX8_setRates_47 rfl (lv_at hl 1 rfl) ?_
        refine x_get hx hb (C := RX8) (T := TX8) (N := 16) (ci := 8) hts iX8 hown hK hP 0 rfl rfl 0 (by decide) wd1 rfl (.ref a1) rfl dX8_setRates_48 ?_
        refine lv_iconst (v := 1) hx hb dX8_setRates_51 (by decide) ?_
        refine lv_iload_n hx hb dX8_setRates_52 rfl (lv_at hl 2 rfl) ?_
        obtain ⟨hi_16, hf⟩ := ckI_el hf
        obtain ⟨st_17, est_17, hf⟩ := lt_el hf
        refine x_iast hx hb hK hP hD hS 1 rfl hi_16 est_17 (w' := wX8 cy a0 a1 a2 a3 a4 a5 a6 st_17 gr hi_10 gh_11 rc_12 tx tl rk tb tk at_ ltr on_ tw th nu) rfl dX8_setRates_53 (fun H locs hP hD hS => ?_)
        refine lv_aload_n hx hb dX8_setRates_54 rfl (lv_at hl 1 rfl) ?_
        refine x_get hx hb (C := RX8) (T := TX8) (N := 16) (ci := 8) hts iX8 hown hK hP 0 rfl rfl 0 (by decide) wd1 rfl (.ref a1) rfl dX8_setRates_55 ?_
        refine lv_iconst (v := 2) hx hb dX8_setRates_58 (by decide) ?_
        refine lv_iload_n hx hb dX8_setRates_59 rfl (lv_at hl 3 rfl) ?_
        obtain ⟨hi_18, hf⟩ := ckI_el hf
        obtain ⟨st_19, est_19, hf⟩ := lt_el hf
        refine x_iast hx hb hK hP hD hS 1 rfl hi_18 est_19 (w' := wX8 cy a0 a1 a2 a3 a4 a5 a6 st_19 gr hi_10 gh_11 rc_12 tx tl rk tb tk at_ ltr on_ tw th nu) rfl dX8_setRates_60 (fun H locs hP hD hS => ?_)
        refine lv_aload_n hx hb dX8_setRates_61 rfl (lv_at hl 1 rfl) ?_
        refine x_get hx hb (C := RX8) (T := TX8) (N := 16) (ci := 8) hts iX8 hown hK hP 0 rfl rfl 0 (by decide) wd1 rfl (.ref a1) rfl dX8_setRates_62 ?_
        refine lv_iconst (v := 3) hx hb dX8_setRates_65 (by decide) ?_
        refine lv_iload_n hx hb dX8_setRates_66 rfl (lv_at hl 4 rfl) ?_
        obtain ⟨hi_20, hf⟩ := ckI_el hf
        obtain ⟨st_21, est_21, hf⟩ := lt_el hf
        refine x_iast hx hb hK hP hD hS 1 rfl hi_20 est_21 (w' := wX8 cy a0 a1 a2 a3 a4 a5 a6 st_21 gr hi_10 gh_11 rc_12 tx tl rk tb tk at_ ltr on_ tw th nu) rfl dX8_setRates_67 (fun H locs hP hD hS => ?_)
        refine lv_iload hx hb dX8_setRates_68 (lv_at hl 0 rfl) ?_
        have hf := Option.some.inj hf
        cases hf
        exact x_iret hx hb hr hlocks hK hP hD hS dX8_setRates_70
      · have hf := x_t c_9 hf
        refine lv_bipush (v := (-2)) hx hb dX8_setRates_32 (by decide) ?_
        have hf := Option.some.inj hf
        cases hf
        exact x_iret hx hb hr hlocks hK hP hD hS dX8_setRates_34
theorem kdX8_setThreshold : yX8_setThreshold.cls = RX8 ∧ yX8_setThreshold.cls ≠ "java/lang/invoke/MethodHandle" ∧ yX8_setThreshold.cls ≠ "java/lang/invoke/VarHandle" ∧ (parseMethodDescriptor yX8_setThreshold.desc).map (fun d => d.parameters.length) = some 1 := by decide +kernel
def rmX8_setThreshold : Room := { frames := 1, cells := 0, slots := 0, locals := 22 }
set_option maxHeartbeats 4000000 in
set_option maxRecDepth 100000 in
theorem mX8_setThreshold (l : Launch) (D : va_G) (cy : Nat → ClassId) (a0 a1 a2 a3 a4 a5 a6 : Nat) (st : Nat → Int32) (gr : Nat → Int64) (hi : Nat → Int32) (gh : Nat → Int64) (rc : Int32) (tx : Nat → Int32) (tl : Int32) (rk : Nat → Int32) (tb : Int32) (tk : Int64) (at_ : Int32) (ltr : Int32) (on_ : Int32) (tw : Int32) (th : Int32) (nu : Int32) (p1 : Int32) (r : Int32) (st' : Nat → Int32) (hi' : Nat → Int32) (gh' : Nat → Int64) (rc' : Int32) (hf : fX8_setThreshold st gr hi gh rc p1 = some (r, st', hi', gh', rc')) : xMi l D cy yX8_setThreshold aX8_setThreshold rmX8_setThreshold ([.ref a0, .int p1] : List Value) (wX8 cy a0 a1 a2 a3 a4 a5 a6 st gr hi gh rc tx tl rk tb tk at_ ltr on_ tw th nu) (wX8 cy a0 a1 a2 a3 a4 a5 a6 st' gr hi' gh' rc' tx tl rk tb tk at_ ltr on_ tw th nu) r := by
  intro hz
  refine x_start (Qc := xQi D cy _ r) (cc := cX8_setThreshold) (maxL := 3) (ret := (some .int)) (by decide) rfl (Nat.le_of_ble_eq_true rfl) (lv := [(0, .ref a0), (1, .int p1)]) rfl ?_
  intro p e s m below meth c ls A hx hb hr hml hown hts hlocks hK hP hD hS hA hN hl
  have hown : s.vm.findClass RX8 = some m.cls := hown
  have hbg : ∀ w ∈ wsL_law, w ∈ aX8_setThreshold := fun w h => List.mem_cons_of_mem _ h
  have wd0 : (Cond.fieldLink RX8 7 "ClientMoneyBookModel" "state" "[I").before ([.ref a0, .int p1] : List Value).toArray s = true := hts _ (List.mem_cons_of_mem _ wm_4_9)
  have iX8 : ∀ w ∈ u_ws RX8 TX8 16, w ∈ aX8_setThreshold := fun w h => List.mem_cons_of_mem _ (inlX8 w h)
  unfold fX8_setThreshold at hf
  refine lv_iload_n hx hb dX8_setThreshold_0 rfl (lv_at hl 1 rfl) ?_
  refine lv_iconst (v := 0) hx hb dX8_setThreshold_1 (by decide) ?_
  refine lv_sipush (v := 10000) hx hb dX8_setThreshold_2 (by decide) ?_
  obtain ⟨r_1, h_2, hf⟩ := bd1_el hf
  refine x_callSi (As := [.int p1, .int 0, .int 10000]) (rest := []) ⟨hx, hb, hml, hown, hts⟩ (mX8_within l D cy   p1 0 10000 r_1 h_2) (va_cwS 3 hts (gcS_X8_within hbg wm_7_0) rfl rfl rfl kdX8_within ⟨Nat.le_of_ble_eq_true rfl, Nat.le_of_ble_eq_true rfl⟩) (w1 := []) (w2 := wX8 cy a0 a1 a2 a3 a4 a5 a6 st gr hi gh rc tx tl rk tb tk at_ ltr on_ tw th nu) (w' := wX8 cy a0 a1 a2 a3 a4 a5 a6 st gr hi gh rc tx tl rk tb tk at_ ltr on_ tw th nu) rfl rfl hP hK hD hN hS hA rfl hl rfl (Nat.le_of_ble_eq_true rfl) dX8_setThreshold_5 ⟨Nat.zero_le _, Nat.zero_le _⟩ (fun H locs hP hD hS => ?_)
  refine lv_if_ne (tgt := 14) hx hb dX8_setThreshold_8 (by decide) (fun c_3 => ?_) (fun c_3 => ?_)
  · have hf := x_f c_3 hf
    refine lv_aload_n hx hb dX8_setThreshold_14 rfl (lv_at hl 0 rfl) ?_
    obtain ⟨hi_4, gh_5, rc_6, h_7, hf⟩ := bd3_el hf
    refine x_callVv (As := []) (rest := []) ⟨hx, hb, hml, hown, hts⟩ (mX8_record l D cy a0 a1 a2 a3 a4 a5 a6 st gr hi gh rc tx tl rk tb tk at_ ltr on_ tw th nu  hi_4 gh_5 rc_6 h_7) (cwV 0 hts (gcV_X8_record hbg wm_7_3) rfl rfl rfl kdX8_record ⟨Nat.le_of_ble_eq_true rfl, Nat.le_of_ble_eq_true rfl⟩) (w1 := []) (w2 := []) (w' := wX8 cy a0 a1 a2 a3 a4 a5 a6 st gr hi_4 gh_5 rc_6 tx tl rk tb tk at_ ltr on_ tw th nu) (List.append_nil _) (List.append_nil _) hP hK hD hN hS hA (q0 := 0) rfl rfl rfl rfl hl rfl (Nat.le_of_ble_eq_true rfl) dX8_setThreshold_15 ⟨Nat.zero_le _, Nat.zero_le _⟩ (fun H locs hP hD hS => ?_)
    refine lv_aload_n hx hb dX8_setThreshold_18 rfl (lv_at hl 0 rfl) ?_
    refine x_get hx hb (C := RX8) (T := TX8) (N := 16) (ci := 8) hts iX8 hown hK hP 0 rfl rfl 0 (by decide) wd0 rfl (.ref a1) rfl dX8_setThreshold_19 ?_
    refine lv_iconst (v := 4) hx hb dX8_setThreshold_22 (by decide) ?_
    obtain ⟨hi_8, hf⟩ := ckI_el hf
    refine va_iald hx hb hK hP 1 1 rfl rfl hi_8 dX8_setThreshold_23 ?_
    obtain ⟨x2_9, ex2_9, hf⟩ := lt_el hf
    refine x_topi ex2_9 ?_
    refine lv_istore_n (lv' := [(2, .int x2_9), (0, .ref a0), (1, .int p1)]) hx hb dX8_setThreshold_24 rfl hl (by decide) rfl (fun ls hl => ?_)
    refine lv_aload_n hx hb dX8_setThreshold_25 rfl (lv_at hl 1 rfl) ?_
    refine x_get hx hb (C := RX8) (T := TX8) (N := 16) (ci := 8) hts iX8 hown hK hP 0 rfl rfl 0 (by decide) wd0 rfl (.ref a1) rfl dX8_setThreshold_26 ?_
    refine lv_iconst (v := 4) hx hb dX8_setThreshold_29 (by decide) ?_
    refine lv_iload_n hx hb dX8_setThreshold_30 rfl (lv_at hl 2 rfl) ?_
    obtain ⟨hi_10, hf⟩ := ckI_el hf
    obtain ⟨st_11, est_11, hf⟩ := lt_el hf
    refine x_iast hx hb hK hP hD hS 1 rfl hi_10 est_11 (w' := wX8 cy a0 a1 a2 a3 a4 a5 a6 st_11 gr hi_4 gh_5 rc_6 tx tl rk tb tk at_ ltr on_ tw th nu) rfl dX8_setThreshold_31 (fun H locs hP hD hS => ?_)
    refine lv_iload_n hx hb dX8_setThreshold_32 rfl (lv_at hl 0 rfl) ?_
    have hf := Option.some.inj hf
    cases hf
    exact x_iret hx hb hr hlocks hK hP hD hS dX8_setThreshold_33
  · have hf := x_t c_3 hf
    refine lv_bipush (v := (-2)) hx hb dX8_setThreshold_11 (by decide) ?_
    have hf := Option.some.inj hf
    cases hf
    exact x_iret hx hb hr hlocks hK hP hD hS dX8_setThreshold_13
theorem kdX8_open : yX8_open.cls = RX8 ∧ yX8_open.cls ≠ "java/lang/invoke/MethodHandle" ∧ yX8_open.cls ≠ "java/lang/invoke/VarHandle" ∧ (parseMethodDescriptor yX8_open.desc).map (fun d => d.parameters.length) = some 1 := by decide +kernel
def rmX8_open : Room := { frames := 2, cells := 0, slots := 0, locals := 45 }
set_option maxHeartbeats 4000000 in
set_option maxRecDepth 100000 in
theorem mX8_open (l : Launch) (D : va_G) (cy : Nat → ClassId) (a0 a1 a2 a3 a4 a5 a6 : Nat) (st : Nat → Int32) (gr : Nat → Int64) (hi : Nat → Int32) (gh : Nat → Int64) (rc : Int32) (tx : Nat → Int32) (tl : Int32) (rk : Nat → Int32) (tb : Int32) (tk : Int64) (at_ : Int32) (ltr : Int32) (on_ : Int32) (tw : Int32) (th : Int32) (nu : Int32) (p1 : Int32) (r : Int32) (st' : Nat → Int32) (gr' : Nat → Int64) (hi' : Nat → Int32) (gh' : Nat → Int64) (rc' : Int32) (hf : fX8_open st gr hi gh rc p1 = some (r, st', gr', hi', gh', rc')) : xMi l D cy yX8_open aX8_open rmX8_open ([.ref a0, .int p1] : List Value) (wX8 cy a0 a1 a2 a3 a4 a5 a6 st gr hi gh rc tx tl rk tb tk at_ ltr on_ tw th nu) (wX8 cy a0 a1 a2 a3 a4 a5 a6 st' gr' hi' gh' rc' tx tl rk tb tk at_ ltr on_ tw th nu) r := by
  intro hz
  refine x_start (Qc := xQi D cy _ r) (cc := cX8_open) (maxL := 4) (ret := (some .int)) (by decide) rfl (Nat.le_of_ble_eq_true rfl) (lv := [(0, .ref a0), (1, .int p1)]) rfl ?_
  intro p e s m below meth c ls A hx hb hr hml hown hts hlocks hK hP hD hS hA hN hl
  have hown : s.vm.findClass RX8 = some m.cls := hown
  have hbg : ∀ w ∈ wsL_law, w ∈ aX8_open := fun w h => List.mem_cons_of_mem _ h
  have wd0 : (Cond.fieldLink RX8 7 "ClientMoneyBookModel" "state" "[I").before ([.ref a0, .int p1] : List Value).toArray s = true := hts _ (List.mem_cons_of_mem _ wm_4_9)
  have wd1 : (Cond.fieldLink RX8 13 "ClientMoneyBookModel" "great" "[J").before ([.ref a0, .int p1] : List Value).toArray s = true := hts _ (List.mem_cons_of_mem _ wm_4_10)
  have iX8 : ∀ w ∈ u_ws RX8 TX8 16, w ∈ aX8_open := fun w h => List.mem_cons_of_mem _ (inlX8 w h)
  unfold fX8_open at hf
  refine lv_iload_n hx hb dX8_open_0 rfl (lv_at hl 1 rfl) ?_
  refine lv_iconst (v := 1) hx hb dX8_open_1 (by decide) ?_
  refine lv_bipush (v := 99) hx hb dX8_open_2 (by decide) ?_
  obtain ⟨r_1, h_2, hf⟩ := bd1_el hf
  refine x_callSi (As := [.int p1, .int 1, .int 99]) (rest := []) ⟨hx, hb, hml, hown, hts⟩ (mX8_within l D cy   p1 1 99 r_1 h_2) (va_cwS 3 hts (gcS_X8_within hbg wm_7_0) rfl rfl rfl kdX8_within ⟨Nat.le_of_ble_eq_true rfl, Nat.le_of_ble_eq_true rfl⟩) (w1 := []) (w2 := wX8 cy a0 a1 a2 a3 a4 a5 a6 st gr hi gh rc tx tl rk tb tk at_ ltr on_ tw th nu) (w' := wX8 cy a0 a1 a2 a3 a4 a5 a6 st gr hi gh rc tx tl rk tb tk at_ ltr on_ tw th nu) rfl rfl hP hK hD hN hS hA rfl hl rfl (Nat.le_of_ble_eq_true rfl) dX8_open_4 ⟨Nat.zero_le _, Nat.zero_le _⟩ (fun H locs hP hD hS => ?_)
  refine lv_if_ne (tgt := 13) hx hb dX8_open_7 (by decide) (fun c_3 => ?_) (fun c_3 => ?_)
  · have hf := x_f c_3 hf
    refine lv_aload_n hx hb dX8_open_13 rfl (lv_at hl 0 rfl) ?_
    refine lv_iload_n hx hb dX8_open_14 rfl (lv_at hl 1 rfl) ?_
    obtain ⟨r_4, h_5, hf⟩ := bd1_el hf
    refine x_callVi (As := [.int p1]) (rest := []) ⟨hx, hb, hml, hown, hts⟩ (mX8_find l D cy a0 a1 a2 a3 a4 a5 a6 st gr hi gh rc tx tl rk tb tk at_ ltr on_ tw th nu p1 r_4 h_5) (cwV 1 hts (gcV_X8_find hbg wm_9_5) rfl rfl rfl kdX8_find ⟨Nat.le_of_ble_eq_true rfl, Nat.le_of_ble_eq_true rfl⟩) (w1 := []) (w2 := []) (w' := wX8 cy a0 a1 a2 a3 a4 a5 a6 st gr hi gh rc tx tl rk tb tk at_ ltr on_ tw th nu) (List.append_nil _) (List.append_nil _) hP hK hD hN hS hA (q0 := 0) rfl rfl rfl rfl hl rfl (Nat.le_of_ble_eq_true rfl) dX8_open_15 ⟨Nat.zero_le _, Nat.zero_le _⟩ (fun H locs hP hD hS => ?_)
    refine lv_bipush (v := (-6)) hx hb dX8_open_18 (by decide) ?_
    refine lv_icmp_eq (tgt := 26) hx hb dX8_open_20 (by decide) (fun c_6 => ?_) (fun c_6 => ?_)
    · have hf := x_t c_6 hf
      refine lv_aload_n hx hb dX8_open_26 rfl (lv_at hl 0 rfl) ?_
      refine x_get hx hb (C := RX8) (T := TX8) (N := 16) (ci := 8) hts iX8 hown hK hP 0 rfl rfl 0 (by decide) wd0 rfl (.ref a1) rfl dX8_open_27 ?_
      refine lv_iconst (v := 5) hx hb dX8_open_30 (by decide) ?_
      obtain ⟨hi_7, hf⟩ := ckI_el hf
      refine va_iald hx hb hK hP 1 1 rfl rfl hi_7 dX8_open_31 ?_
      refine lv_bipush (v := 12) hx hb dX8_open_32 (by decide) ?_
      refine lv_icmp_ne (tgt := 40) hx hb dX8_open_34 (by decide) (fun c_8 => ?_) (fun c_8 => ?_)
      · have hf := x_f c_8 hf
        refine lv_aload_n hx hb dX8_open_40 rfl (lv_at hl 0 rfl) ?_
        obtain ⟨hi_9, gh_10, rc_11, h_12, hf⟩ := bd3_el hf
        refine x_callVv (As := []) (rest := []) ⟨hx, hb, hml, hown, hts⟩ (mX8_record l D cy a0 a1 a2 a3 a4 a5 a6 st gr hi gh rc tx tl rk tb tk at_ ltr on_ tw th nu  hi_9 gh_10 rc_11 h_12) (cwV 0 hts (gcV_X8_record hbg wm_7_3) rfl rfl rfl kdX8_record ⟨Nat.le_of_ble_eq_true rfl, Nat.le_of_ble_eq_true rfl⟩) (w1 := []) (w2 := []) (w' := wX8 cy a0 a1 a2 a3 a4 a5 a6 st gr hi_9 gh_10 rc_11 tx tl rk tb tk at_ ltr on_ tw th nu) (List.append_nil _) (List.append_nil _) hP hK hD hN hS hA (q0 := 0) rfl rfl rfl rfl hl rfl (Nat.le_of_ble_eq_true rfl) dX8_open_41 ⟨Nat.zero_le _, Nat.zero_le _⟩ (fun H locs hP hD hS => ?_)
        refine lv_aload_n hx hb dX8_open_44 rfl (lv_at hl 0 rfl) ?_
        refine x_get hx hb (C := RX8) (T := TX8) (N := 16) (ci := 8) hts iX8 hown hK hP 0 rfl rfl 0 (by decide) wd0 rfl (.ref a1) rfl dX8_open_45 ?_
        refine lv_iconst (v := 5) hx hb dX8_open_48 (by decide) ?_
        obtain ⟨hi_13, hf⟩ := ckI_el hf
        refine va_iald hx hb hK hP 1 1 rfl rfl hi_13 dX8_open_49 ?_
        obtain ⟨x2_14, ex2_14, hf⟩ := lt_el hf
        refine x_topi ex2_14 ?_
        refine lv_istore_n (lv' := [(2, .int x2_14), (0, .ref a0), (1, .int p1)]) hx hb dX8_open_50 rfl hl (by decide) rfl (fun ls hl => ?_)
        have hL_51 : ∀ (n : Nat) (st_44 : Nat → Int32) (gr_45 : Nat → Int64) (z2_46 : Int32) (o : (Nat → Int32) × (Nat → Int64) × Int32) (H : Heap) (locs : List Loc) (ls : Array Slot), fX8_open_L51 p1 n st_44 gr_45 z2_46 = some o → va_P D vwCl (wX8 cy a0 a1 a2 a3 a4 a5 a6 st_44 gr_45 hi_9 gh_10 rc_11 tx tl rk tb tk at_ ltr on_ tw th nu) H → va_D A (wX8 cy a0 a1 a2 a3 a4 a5 a6 st_44 gr_45 hi_9 gh_10 rc_11 tx tl rk tb tk at_ ltr on_ tw th nu) → va_S A s.heap H locs → lv_has ls 4 [(0, .ref a0), (1, .int p1), (2, .int z2_46)] → True → ((∀ (st_47 : Nat → Int32) (gr_48 : Nat → Int64) (x2_49 : Int32) , o = (st_47, gr_48, x2_49) → ∀ (H : Heap) (locs : List Loc) (ls : Array Slot), va_P D vwCl (wX8 cy a0 a1 a2 a3 a4 a5 a6 st_47 gr_48 hi_9 gh_10 rc_11 tx tl rk tb tk at_ ltr on_ tw th nu) H → va_D A (wX8 cy a0 a1 a2 a3 a4 a5 a6 st_47 gr_48 hi_9 gh_10 rc_11 tx tl rk tb tk at_ ltr on_ tw th nu) → va_S A s.heap H locs → lv_has ls 4 [(0, .ref a0), (1, .int p1), (2, .int x2_49)] → W p l e rmX8_open s m ([.ref a0, .int p1] : List Value).toArray below meth c H locs 0 0 (MQ below (xQi D cy (wX8 cy a0 a1 a2 a3 a4 a5 a6 st' gr' hi' gh' rc' tx tl rk tb tk at_ ltr on_ tw th nu) r A) ([.ref a0, .int p1] : List Value).toArray s 0 0 A) (F0 m 114 ls []))) → W p l e rmX8_open s m ([.ref a0, .int p1] : List Value).toArray below meth c H locs 0 0 (MQ below (xQi D cy (wX8 cy a0 a1 a2 a3 a4 a5 a6 st' gr' hi' gh' rc' tx tl rk tb tk at_ ltr on_ tw th nu) r A) ([.ref a0, .int p1] : List Value).toArray s 0 0 A) (F0 m 51 ls []) := by
          intro n
          induction n with
          | zero =>
            intro st_44 gr_45 z2_46 o_51 H locs ls hf
            rw [fX8_open_L51] at hf
            cases hf
          | succ n ih =>
            intro st_44 gr_45 z2_46 o_51 H locs ls hf hP hD hS hl hr_51 kx_51
            rw [fX8_open_L51] at hf
            refine lv_iload_n hx hb dX8_open_51 rfl (lv_at hl 2 rfl) ?_
            refine lv_if_le (tgt := 114) hx hb dX8_open_52 (by decide) (fun c_50 => ?_) (fun c_50 => ?_)
            · have hf := x_t c_50 hf
              exact kx_51 st_44 gr_45 z2_46 (Option.some.inj hf).symm _ _ _ hP hD hS (lv_sub hl [0, 1, 2] rfl)
            · have hf := x_f c_50 hf
              refine lv_aload_n hx hb dX8_open_55 rfl (lv_at hl 0 rfl) ?_
              refine lv_iload_n hx hb dX8_open_56 rfl (lv_at hl 2 rfl) ?_
              refine lv_iconst (v := 1) hx hb dX8_open_57 (by decide) ?_
              refine lv_isub hx hb dX8_open_58 ?_
              refine lv_iconst (v := 0) hx hb dX8_open_59 (by decide) ?_
              obtain ⟨r_51, h_52, hf⟩ := bd1_el hf
              refine x_callVi (As := [.int (z2_46 - 1), .int 0]) (rest := []) ⟨hx, hb, hml, hown, hts⟩ (mX8_part l D cy a0 a1 a2 a3 a4 a5 a6 st_44 gr_45 hi_9 gh_10 rc_11 tx tl rk tb tk at_ ltr on_ tw th nu (z2_46 - 1) 0 r_51 h_52) (cwV 2 hts (gcV_X8_part hbg wm_9_9) rfl rfl rfl kdX8_part ⟨Nat.le_of_ble_eq_true rfl, Nat.le_of_ble_eq_true rfl⟩) (w1 := []) (w2 := []) (w' := wX8 cy a0 a1 a2 a3 a4 a5 a6 st_44 gr_45 hi_9 gh_10 rc_11 tx tl rk tb tk at_ ltr on_ tw th nu) (List.append_nil _) (List.append_nil _) hP hK hD hN hS hA (q0 := 0) rfl rfl rfl rfl hl rfl (Nat.le_of_ble_eq_true rfl) dX8_open_60 ⟨Nat.zero_le _, Nat.zero_le _⟩ (fun H locs hP hD hS => ?_)
              refine lv_iload_n hx hb dX8_open_63 rfl (lv_at hl 1 rfl) ?_
              refine lv_icmp_le (tgt := 114) hx hb dX8_open_64 (by decide) (fun c_53 => ?_) (fun c_53 => ?_)
              · have hf := x_t c_53 hf
                exact kx_51 st_44 gr_45 z2_46 (Option.some.inj hf).symm _ _ _ hP hD hS (lv_sub hl [0, 1, 2] rfl)
              · have hf := x_f c_53 hf
                refine lv_iconst (v := 0) hx hb dX8_open_67 (by decide) ?_
                refine lv_istore_n (lv' := [(3, .int 0), (0, .ref a0), (1, .int p1), (2, .int z2_46)]) hx hb dX8_open_68 rfl hl (by decide) rfl (fun ls hl => ?_)
                have hL_69 : ∀ (n : Nat) (st_58 : Nat → Int32) (z3_59 : Int32) (o : (Nat → Int32)) (H : Heap) (locs : List Loc) (ls : Array Slot), fX8_open_L69 p1 z2_46 n st_58 z3_59 = some o → va_P D vwCl (wX8 cy a0 a1 a2 a3 a4 a5 a6 st_58 gr_45 hi_9 gh_10 rc_11 tx tl rk tb tk at_ ltr on_ tw th nu) H → va_D A (wX8 cy a0 a1 a2 a3 a4 a5 a6 st_58 gr_45 hi_9 gh_10 rc_11 tx tl rk tb tk at_ ltr on_ tw th nu) → va_S A s.heap H locs → lv_has ls 4 [(0, .ref a0), (1, .int p1), (2, .int z2_46), (3, .int z3_59)] → True → ((∀ (st_60 : Nat → Int32) , o = st_60 → ∀ (H : Heap) (locs : List Loc) (ls : Array Slot), va_P D vwCl (wX8 cy a0 a1 a2 a3 a4 a5 a6 st_60 gr_45 hi_9 gh_10 rc_11 tx tl rk tb tk at_ ltr on_ tw th nu) H → va_D A (wX8 cy a0 a1 a2 a3 a4 a5 a6 st_60 gr_45 hi_9 gh_10 rc_11 tx tl rk tb tk at_ ltr on_ tw th nu) → va_S A s.heap H locs → lv_has ls 4 [(0, .ref a0), (1, .int p1), (2, .int z2_46)] → W p l e rmX8_open s m ([.ref a0, .int p1] : List Value).toArray below meth c H locs 0 0 (MQ below (xQi D cy (wX8 cy a0 a1 a2 a3 a4 a5 a6 st' gr' hi' gh' rc' tx tl rk tb tk at_ ltr on_ tw th nu) r A) ([.ref a0, .int p1] : List Value).toArray s 0 0 A) (F0 m 94 ls []))) → W p l e rmX8_open s m ([.ref a0, .int p1] : List Value).toArray below meth c H locs 0 0 (MQ below (xQi D cy (wX8 cy a0 a1 a2 a3 a4 a5 a6 st' gr' hi' gh' rc' tx tl rk tb tk at_ ltr on_ tw th nu) r A) ([.ref a0, .int p1] : List Value).toArray s 0 0 A) (F0 m 69 ls []) := by
                  intro n
                  induction n with
                  | zero =>
                    intro st_58 z3_59 o_69 H locs ls hf
                    rw [fX8_open_L69] at hf
                    cases hf
                  | succ n ih =>
                    intro st_58 z3_59 o_69 H locs ls hf hP hD hS hl hr_69 kx_69
                    rw [fX8_open_L69] at hf
                    refine lv_iload_n hx hb dX8_open_69 rfl (lv_at hl 3 rfl) ?_
                    refine lv_iconst (v := 3) hx hb dX8_open_70 (by decide) ?_
                    refine lv_icmp_ge (tgt := 94) hx hb dX8_open_71 (by decide) (fun c_61 => ?_) (fun c_61 => ?_)
                    · have hf := x_t c_61 hf
                      exact kx_69 st_58 (Option.some.inj hf).symm _ _ _ hP hD hS (lv_sub hl [0, 1, 2] rfl)
                    · have hf := x_f c_61 hf
                      refine lv_aload_n hx hb dX8_open_74 rfl (lv_at hl 0 rfl) ?_
                      refine lv_iload_n hx hb dX8_open_75 rfl (lv_at hl 2 rfl) ?_
                      refine lv_iload_n hx hb dX8_open_76 rfl (lv_at hl 3 rfl) ?_
                      refine lv_aload_n hx hb dX8_open_77 rfl (lv_at hl 0 rfl) ?_
                      refine lv_iload_n hx hb dX8_open_78 rfl (lv_at hl 2 rfl) ?_
                      refine lv_iconst (v := 1) hx hb dX8_open_79 (by decide) ?_
                      refine lv_isub hx hb dX8_open_80 ?_
                      refine lv_iload_n hx hb dX8_open_81 rfl (lv_at hl 3 rfl) ?_
                      obtain ⟨r_62, h_63, hf⟩ := bd1_el hf
                      refine x_callVi (As := [.int (z2_46 - 1), .int z3_59]) (rest := [.int z3_59, .int z2_46, .ref a0]) ⟨hx, hb, hml, hown, hts⟩ (mX8_part l D cy a0 a1 a2 a3 a4 a5 a6 st_58 gr_45 hi_9 gh_10 rc_11 tx tl rk tb tk at_ ltr on_ tw th nu (z2_46 - 1) z3_59 r_62 h_63) (cwV 2 hts (gcV_X8_part hbg wm_9_9) rfl rfl rfl kdX8_part ⟨Nat.le_of_ble_eq_true rfl, Nat.le_of_ble_eq_true rfl⟩) (w1 := []) (w2 := []) (w' := wX8 cy a0 a1 a2 a3 a4 a5 a6 st_58 gr_45 hi_9 gh_10 rc_11 tx tl rk tb tk at_ ltr on_ tw th nu) (List.append_nil _) (List.append_nil _) hP hK hD hN hS hA (q0 := 0) rfl rfl rfl rfl hl rfl (Nat.le_of_ble_eq_true rfl) dX8_open_82 ⟨Nat.zero_le _, Nat.zero_le _⟩ (fun H locs hP hD hS => ?_)
                      obtain ⟨st_64, h_65, hf⟩ := bd1_el hf
                      refine x_callVv (As := [.int z2_46, .int z3_59, .int r_62]) (rest := []) ⟨hx, hb, hml, hown, hts⟩ (mX8_setPart l D cy a0 a1 a2 a3 a4 a5 a6 st_58 gr_45 hi_9 gh_10 rc_11 tx tl rk tb tk at_ ltr on_ tw th nu z2_46 z3_59 r_62 st_64 h_65) (cwV 3 hts (gcV_X8_setPart hbg wm_9_13) rfl rfl rfl kdX8_setPart ⟨Nat.le_of_ble_eq_true rfl, Nat.le_of_ble_eq_true rfl⟩) (w1 := []) (w2 := []) (w' := wX8 cy a0 a1 a2 a3 a4 a5 a6 st_64 gr_45 hi_9 gh_10 rc_11 tx tl rk tb tk at_ ltr on_ tw th nu) (List.append_nil _) (List.append_nil _) hP hK hD hN hS hA (q0 := 0) rfl rfl rfl rfl hl rfl (Nat.le_of_ble_eq_true rfl) dX8_open_85 ⟨Nat.zero_le _, Nat.zero_le _⟩ (fun H locs hP hD hS => ?_)
                      refine lv_iinc (v := (z3_59 + 1)) (lv' := [(3, .int (z3_59 + 1)), (0, .ref a0), (1, .int p1), (2, .int z2_46)]) hx hb dX8_open_88 hl (k := 3) rfl rfl (by decide) rfl (fun ls hl => ?_)
                      refine lv_goto (tgt := 69) hx hb dX8_open_91 (by decide) ?_
                      exact ih st_64 (z3_59 + 1) _ _ _ _ hf hP hD hS (lv_sub hl [1, 2, 3, 0] rfl) hr_69 kx_69
                obtain ⟨st_54, h1_69, hf⟩ := bd1_el hf
                refine hL_69 2147483648 st_44 0 _ _ _ _ h1_69 hP hD hS (lv_sub hl [1, 2, 3, 0] rfl) trivial (fun st_549 ho H locs ls hP hD hS hl => ?_)
                cases ho
                refine lv_aload_n hx hb dX8_open_94 rfl (lv_at hl 0 rfl) ?_
                refine x_get hx hb (C := RX8) (T := TX8) (N := 16) (ci := 8) hts iX8 hown hK hP 0 rfl rfl 1 (by decide) wd1 rfl (.ref a2) rfl dX8_open_95 ?_
                refine lv_iload_n hx hb dX8_open_98 rfl (lv_at hl 2 rfl) ?_
                refine lv_aload_n hx hb dX8_open_99 rfl (lv_at hl 0 rfl) ?_
                refine x_get hx hb (C := RX8) (T := TX8) (N := 16) (ci := 8) hts iX8 hown hK hP 0 rfl rfl 1 (by decide) wd1 rfl (.ref a2) rfl dX8_open_100 ?_
                refine lv_iload_n hx hb dX8_open_103 rfl (lv_at hl 2 rfl) ?_
                refine lv_iconst (v := 1) hx hb dX8_open_104 (by decide) ?_
                refine lv_isub hx hb dX8_open_105 ?_
                obtain ⟨hi_55, hf⟩ := ckI_el hf
                refine va_lald hx hb hK hP 2 2 rfl rfl hi_55 dX8_open_106 ?_
                obtain ⟨hi_56, hf⟩ := ckI_el hf
                obtain ⟨gr_57, egr_57, hf⟩ := lt_el hf
                refine x_last hx hb hK hP hD hS 2 rfl hi_56 egr_57 (w' := wX8 cy a0 a1 a2 a3 a4 a5 a6 st_54 gr_57 hi_9 gh_10 rc_11 tx tl rk tb tk at_ ltr on_ tw th nu) rfl dX8_open_107 (fun H locs hP hD hS => ?_)
                refine lv_iinc (v := (z2_46 + (-1))) (lv' := [(2, .int (z2_46 + (-1))), (0, .ref a0), (1, .int p1)]) hx hb dX8_open_108 hl (k := 2) rfl rfl (by decide) rfl (fun ls hl => ?_)
                refine lv_goto (tgt := 51) hx hb dX8_open_111 (by decide) ?_
                exact ih st_54 gr_57 (z2_46 + (-1)) _ _ _ _ hf hP hD hS (lv_sub hl [1, 2, 0] rfl) hr_51 kx_51
        obtain ⟨st_28, gr_29, x2_30, h1_51, hf⟩ := bd3_el hf
        refine hL_51 2147483648 st gr x2_14 _ _ _ _ h1_51 hP hD hS (lv_sub hl [1, 2, 0] rfl) trivial (fun st_289 gr_299 x2_309 ho H locs ls hP hD hS hl => ?_)
        cases ho
        refine lv_aload_n hx hb dX8_open_114 rfl (lv_at hl 0 rfl) ?_
        refine lv_iload_n hx hb dX8_open_115 rfl (lv_at hl 2 rfl) ?_
        refine lv_iconst (v := 0) hx hb dX8_open_116 (by decide) ?_
        refine lv_iload_n hx hb dX8_open_117 rfl (lv_at hl 1 rfl) ?_
        obtain ⟨st_31, h_32, hf⟩ := bd1_el hf
        refine x_callVv (As := [.int x2_30, .int 0, .int p1]) (rest := []) ⟨hx, hb, hml, hown, hts⟩ (mX8_setPart l D cy a0 a1 a2 a3 a4 a5 a6 st_28 gr_29 hi_9 gh_10 rc_11 tx tl rk tb tk at_ ltr on_ tw th nu x2_30 0 p1 st_31 h_32) (cwV 3 hts (gcV_X8_setPart hbg wm_9_13) rfl rfl rfl kdX8_setPart ⟨Nat.le_of_ble_eq_true rfl, Nat.le_of_ble_eq_true rfl⟩) (w1 := []) (w2 := []) (w' := wX8 cy a0 a1 a2 a3 a4 a5 a6 st_31 gr_29 hi_9 gh_10 rc_11 tx tl rk tb tk at_ ltr on_ tw th nu) (List.append_nil _) (List.append_nil _) hP hK hD hN hS hA (q0 := 0) rfl rfl rfl rfl hl rfl (Nat.le_of_ble_eq_true rfl) dX8_open_118 ⟨Nat.zero_le _, Nat.zero_le _⟩ (fun H locs hP hD hS => ?_)
        refine lv_aload_n hx hb dX8_open_121 rfl (lv_at hl 0 rfl) ?_
        refine lv_iload_n hx hb dX8_open_122 rfl (lv_at hl 2 rfl) ?_
        refine lv_iconst (v := 1) hx hb dX8_open_123 (by decide) ?_
        refine lv_iconst (v := 0) hx hb dX8_open_124 (by decide) ?_
        obtain ⟨st_33, h_34, hf⟩ := bd1_el hf
        refine x_callVv (As := [.int x2_30, .int 1, .int 0]) (rest := []) ⟨hx, hb, hml, hown, hts⟩ (mX8_setPart l D cy a0 a1 a2 a3 a4 a5 a6 st_31 gr_29 hi_9 gh_10 rc_11 tx tl rk tb tk at_ ltr on_ tw th nu x2_30 1 0 st_33 h_34) (cwV 3 hts (gcV_X8_setPart hbg wm_9_13) rfl rfl rfl kdX8_setPart ⟨Nat.le_of_ble_eq_true rfl, Nat.le_of_ble_eq_true rfl⟩) (w1 := []) (w2 := []) (w' := wX8 cy a0 a1 a2 a3 a4 a5 a6 st_33 gr_29 hi_9 gh_10 rc_11 tx tl rk tb tk at_ ltr on_ tw th nu) (List.append_nil _) (List.append_nil _) hP hK hD hN hS hA (q0 := 0) rfl rfl rfl rfl hl rfl (Nat.le_of_ble_eq_true rfl) dX8_open_125 ⟨Nat.zero_le _, Nat.zero_le _⟩ (fun H locs hP hD hS => ?_)
        refine lv_aload_n hx hb dX8_open_128 rfl (lv_at hl 0 rfl) ?_
        refine lv_iload_n hx hb dX8_open_129 rfl (lv_at hl 2 rfl) ?_
        refine lv_iconst (v := 2) hx hb dX8_open_130 (by decide) ?_
        refine lv_aload_n hx hb dX8_open_131 rfl (lv_at hl 0 rfl) ?_
        refine x_get hx hb (C := RX8) (T := TX8) (N := 16) (ci := 8) hts iX8 hown hK hP 0 rfl rfl 0 (by decide) wd0 rfl (.ref a1) rfl dX8_open_132 ?_
        refine lv_iconst (v := 0) hx hb dX8_open_135 (by decide) ?_
        obtain ⟨hi_35, hf⟩ := ckI_el hf
        refine va_iald hx hb hK hP 1 1 rfl rfl hi_35 dX8_open_136 ?_
        obtain ⟨st_36, h_37, hf⟩ := bd1_el hf
        refine x_callVv (As := [.int x2_30, .int 2, .int (st_33 (0 : Int32).toNatClampNeg)]) (rest := []) ⟨hx, hb, hml, hown, hts⟩ (mX8_setPart l D cy a0 a1 a2 a3 a4 a5 a6 st_33 gr_29 hi_9 gh_10 rc_11 tx tl rk tb tk at_ ltr on_ tw th nu x2_30 2 (st_33 (0 : Int32).toNatClampNeg) st_36 h_37) (cwV 3 hts (gcV_X8_setPart hbg wm_9_13) rfl rfl rfl kdX8_setPart ⟨Nat.le_of_ble_eq_true rfl, Nat.le_of_ble_eq_true rfl⟩) (w1 := []) (w2 := []) (w' := wX8 cy a0 a1 a2 a3 a4 a5 a6 st_36 gr_29 hi_9 gh_10 rc_11 tx tl rk tb tk at_ ltr on_ tw th nu) (List.append_nil _) (List.append_nil _) hP hK hD hN hS hA (q0 := 0) rfl rfl rfl rfl hl rfl (Nat.le_of_ble_eq_true rfl) dX8_open_137 ⟨Nat.zero_le _, Nat.zero_le _⟩ (fun H locs hP hD hS => ?_)
        refine lv_aload_n hx hb dX8_open_140 rfl (lv_at hl 0 rfl) ?_
        refine x_get hx hb (C := RX8) (T := TX8) (N := 16) (ci := 8) hts iX8 hown hK hP 0 rfl rfl 1 (by decide) wd1 rfl (.ref a2) rfl dX8_open_141 ?_
        refine lv_iload_n hx hb dX8_open_144 rfl (lv_at hl 2 rfl) ?_
        refine lv_lconst (v := 0) hx hb dX8_open_145 (by decide) ?_
        obtain ⟨hi_38, hf⟩ := ckI_el hf
        obtain ⟨gr_39, egr_39, hf⟩ := lt_el hf
        refine x_last hx hb hK hP hD hS 2 rfl hi_38 egr_39 (w' := wX8 cy a0 a1 a2 a3 a4 a5 a6 st_36 gr_39 hi_9 gh_10 rc_11 tx tl rk tb tk at_ ltr on_ tw th nu) rfl dX8_open_146 (fun H locs hP hD hS => ?_)
        refine lv_aload_n hx hb dX8_open_147 rfl (lv_at hl 0 rfl) ?_
        refine x_get hx hb (C := RX8) (T := TX8) (N := 16) (ci := 8) hts iX8 hown hK hP 0 rfl rfl 0 (by decide) wd0 rfl (.ref a1) rfl dX8_open_148 ?_
        refine lv_iconst (v := 5) hx hb dX8_open_151 (by decide) ?_
        refine lv_dup2_11 hx hb dX8_open_152 rfl rfl ?_
        obtain ⟨hi_40, hf⟩ := ckI_el hf
        refine va_iald hx hb hK hP 1 1 rfl rfl hi_40 dX8_open_153 ?_
        refine lv_iconst (v := 1) hx hb dX8_open_154 (by decide) ?_
        refine lv_iadd hx hb dX8_open_155 ?_
        obtain ⟨hi_41, hf⟩ := ckI_el hf
        obtain ⟨st_42, est_42, hf⟩ := lt_el hf
        refine x_iast hx hb hK hP hD hS 1 rfl hi_41 est_42 (w' := wX8 cy a0 a1 a2 a3 a4 a5 a6 st_42 gr_39 hi_9 gh_10 rc_11 tx tl rk tb tk at_ ltr on_ tw th nu) rfl dX8_open_156 (fun H locs hP hD hS => ?_)
        refine lv_aload_n hx hb dX8_open_157 rfl (lv_at hl 0 rfl) ?_
        refine x_get hx hb (C := RX8) (T := TX8) (N := 16) (ci := 8) hts iX8 hown hK hP 0 rfl rfl 0 (by decide) wd0 rfl (.ref a1) rfl dX8_open_158 ?_
        refine lv_iconst (v := 5) hx hb dX8_open_161 (by decide) ?_
        obtain ⟨hi_43, hf⟩ := ckI_el hf
        refine va_iald hx hb hK hP 1 1 rfl rfl hi_43 dX8_open_162 ?_
        have hf := Option.some.inj hf
        cases hf
        exact x_iret hx hb hr hlocks hK hP hD hS dX8_open_163
      · have hf := x_t c_8 hf
        refine lv_bipush (v := (-4)) hx hb dX8_open_37 (by decide) ?_
        have hf := Option.some.inj hf
        cases hf
        exact x_iret hx hb hr hlocks hK hP hD hS dX8_open_39
    · have hf := x_f c_6 hf
      refine lv_bipush (v := (-3)) hx hb dX8_open_23 (by decide) ?_
      have hf := Option.some.inj hf
      cases hf
      exact x_iret hx hb hr hlocks hK hP hD hS dX8_open_25
  · have hf := x_t c_3 hf
    refine lv_bipush (v := (-2)) hx hb dX8_open_10 (by decide) ?_
    have hf := Option.some.inj hf
    cases hf
    exact x_iret hx hb hr hlocks hK hP hD hS dX8_open_12
theorem kdX8_billsOf : yX8_billsOf.cls = RX8 ∧ yX8_billsOf.cls ≠ "java/lang/invoke/MethodHandle" ∧ yX8_billsOf.cls ≠ "java/lang/invoke/VarHandle" ∧ (parseMethodDescriptor yX8_billsOf.desc).map (fun d => d.parameters.length) = some 1 := by decide +kernel
def rmX8_billsOf : Room := { frames := 1, cells := 0, slots := 0, locals := 22 }
set_option maxHeartbeats 4000000 in
set_option maxRecDepth 100000 in
theorem mX8_billsOf (l : Launch) (D : va_G) (cy : Nat → ClassId) (a0 a1 a2 a3 a4 a5 a6 : Nat) (st : Nat → Int32) (gr : Nat → Int64) (hi : Nat → Int32) (gh : Nat → Int64) (rc : Int32) (tx : Nat → Int32) (tl : Int32) (rk : Nat → Int32) (tb : Int32) (tk : Int64) (at_ : Int32) (ltr : Int32) (on_ : Int32) (tw : Int32) (th : Int32) (nu : Int32) (p1 : Int32) (r : Int32) (hf : fX8_billsOf st p1 = some r) : xMi l D cy yX8_billsOf aX8_billsOf rmX8_billsOf ([.ref a0, .int p1] : List Value) (wX8 cy a0 a1 a2 a3 a4 a5 a6 st gr hi gh rc tx tl rk tb tk at_ ltr on_ tw th nu) (wX8 cy a0 a1 a2 a3 a4 a5 a6 st gr hi gh rc tx tl rk tb tk at_ ltr on_ tw th nu) r := by
  intro hz
  refine x_start (Qc := xQi D cy _ r) (cc := cX8_billsOf) (maxL := 4) (ret := (some .int)) (by decide) rfl (Nat.le_of_ble_eq_true rfl) (lv := [(0, .ref a0), (1, .int p1)]) rfl ?_
  intro p e s m below meth c ls A hx hb hr hml hown hts hlocks hK hP hD hS hA hN hl
  have hown : s.vm.findClass RX8 = some m.cls := hown
  have hbg : ∀ w ∈ wsL_law, w ∈ aX8_billsOf := fun w h => List.mem_cons_of_mem _ h
  have wd0 : (Cond.fieldLink RX8 7 "ClientMoneyBookModel" "state" "[I").before ([.ref a0, .int p1] : List Value).toArray s = true := hts _ (List.mem_cons_of_mem _ wm_4_9)
  have iX8 : ∀ w ∈ u_ws RX8 TX8 16, w ∈ aX8_billsOf := fun w h => List.mem_cons_of_mem _ (inlX8 w h)
  unfold fX8_billsOf at hf
  refine lv_iconst (v := 0) hx hb dX8_billsOf_0 (by decide) ?_
  refine lv_istore_n (lv' := [(2, .int 0), (0, .ref a0), (1, .int p1)]) hx hb dX8_billsOf_1 rfl hl (by decide) rfl (fun ls hl => ?_)
  refine lv_iconst (v := 0) hx hb dX8_billsOf_2 (by decide) ?_
  refine lv_istore_n (lv' := [(3, .int 0), (2, .int 0), (0, .ref a0), (1, .int p1)]) hx hb dX8_billsOf_3 rfl hl (by decide) rfl (fun ls hl => ?_)
  have hL_4 : ∀ (n : Nat) (z2_9 : Int32) (z3_10 : Int32) (o : Int32) (H : Heap) (locs : List Loc) (ls : Array Slot), fX8_billsOf_L4 st p1 n z2_9 z3_10 = some o → va_P D vwCl (wX8 cy a0 a1 a2 a3 a4 a5 a6 st gr hi gh rc tx tl rk tb tk at_ ltr on_ tw th nu) H → va_D A (wX8 cy a0 a1 a2 a3 a4 a5 a6 st gr hi gh rc tx tl rk tb tk at_ ltr on_ tw th nu) → va_S A s.heap H locs → lv_has ls 4 [(0, .ref a0), (1, .int p1), (2, .int z2_9), (3, .int z3_10)] → True → ((∀ (x2_11 : Int32) , o = x2_11 → ∀ (H : Heap) (locs : List Loc) (ls : Array Slot), va_P D vwCl (wX8 cy a0 a1 a2 a3 a4 a5 a6 st gr hi gh rc tx tl rk tb tk at_ ltr on_ tw th nu) H → va_D A (wX8 cy a0 a1 a2 a3 a4 a5 a6 st gr hi gh rc tx tl rk tb tk at_ ltr on_ tw th nu) → va_S A s.heap H locs → lv_has ls 4 [(2, .int x2_11)] → W p l e rmX8_billsOf s m ([.ref a0, .int p1] : List Value).toArray below meth c H locs 0 0 (MQ below (xQi D cy (wX8 cy a0 a1 a2 a3 a4 a5 a6 st gr hi gh rc tx tl rk tb tk at_ ltr on_ tw th nu) r A) ([.ref a0, .int p1] : List Value).toArray s 0 0 A) (F0 m 39 ls []))) → W p l e rmX8_billsOf s m ([.ref a0, .int p1] : List Value).toArray below meth c H locs 0 0 (MQ below (xQi D cy (wX8 cy a0 a1 a2 a3 a4 a5 a6 st gr hi gh rc tx tl rk tb tk at_ ltr on_ tw th nu) r A) ([.ref a0, .int p1] : List Value).toArray s 0 0 A) (F0 m 4 ls []) := by
    intro n
    induction n with
    | zero =>
      intro z2_9 z3_10 o_4 H locs ls hf
      rw [fX8_billsOf_L4] at hf
      cases hf
    | succ n ih =>
      intro z2_9 z3_10 o_4 H locs ls hf hP hD hS hl hr_4 kx_4
      rw [fX8_billsOf_L4] at hf
      refine lv_iload_n hx hb dX8_billsOf_4 rfl (lv_at hl 3 rfl) ?_
      refine lv_aload_n hx hb dX8_billsOf_5 rfl (lv_at hl 0 rfl) ?_
      refine x_get hx hb (C := RX8) (T := TX8) (N := 16) (ci := 8) hts iX8 hown hK hP 0 rfl rfl 0 (by decide) wd0 rfl (.ref a1) rfl dX8_billsOf_6 ?_
      refine lv_bipush (v := 7) hx hb dX8_billsOf_9 (by decide) ?_
      obtain ⟨hi_12, hf⟩ := ckI_el hf
      refine va_iald hx hb hK hP 1 1 rfl rfl hi_12 dX8_billsOf_11 ?_
      refine lv_icmp_ge (tgt := 39) hx hb dX8_billsOf_12 (by decide) (fun c_13 => ?_) (fun c_13 => ?_)
      · have hf := x_t c_13 hf
        exact kx_4 z2_9 (Option.some.inj hf).symm _ _ _ hP hD hS (lv_sub hl [2] rfl)
      · have hf := x_f c_13 hf
        refine lv_iload_n hx hb dX8_billsOf_15 rfl (lv_at hl 2 rfl) ?_
        refine lv_aload_n hx hb dX8_billsOf_16 rfl (lv_at hl 0 rfl) ?_
        refine lv_iload_n hx hb dX8_billsOf_17 rfl (lv_at hl 3 rfl) ?_
        refine lv_iconst (v := 1) hx hb dX8_billsOf_18 (by decide) ?_
        obtain ⟨r_14, h_15, hf⟩ := bd1_el hf
        refine x_callVi (As := [.int z3_10, .int 1]) (rest := [.int z2_9]) ⟨hx, hb, hml, hown, hts⟩ (mX8_billPart l D cy a0 a1 a2 a3 a4 a5 a6 st gr hi gh rc tx tl rk tb tk at_ ltr on_ tw th nu z3_10 1 r_14 h_15) (cwV 2 hts (gcV_X8_billPart hbg wm_11_1) rfl rfl rfl kdX8_billPart ⟨Nat.le_of_ble_eq_true rfl, Nat.le_of_ble_eq_true rfl⟩) (w1 := []) (w2 := []) (w' := wX8 cy a0 a1 a2 a3 a4 a5 a6 st gr hi gh rc tx tl rk tb tk at_ ltr on_ tw th nu) (List.append_nil _) (List.append_nil _) hP hK hD hN hS hA (q0 := 0) rfl rfl rfl rfl hl rfl (Nat.le_of_ble_eq_true rfl) dX8_billsOf_19 ⟨Nat.zero_le _, Nat.zero_le _⟩ (fun H locs hP hD hS => ?_)
        refine lv_iload_n hx hb dX8_billsOf_22 rfl (lv_at hl 1 rfl) ?_
        refine lv_icmp_ne (tgt := 30) hx hb dX8_billsOf_23 (by decide) (fun c_16 => ?_) (fun c_16 => ?_)
        · have hf := x_f c_16 hf
          refine lv_iconst (v := 0) hx hb dX8_billsOf_30 (by decide) ?_
          refine lv_iadd hx hb dX8_billsOf_31 ?_
          obtain ⟨x2_17, ex2_17, hf⟩ := lt_el hf
          refine x_topi ex2_17 ?_
          refine lv_istore_n (lv' := [(2, .int x2_17), (0, .ref a0), (1, .int p1), (3, .int z3_10)]) hx hb dX8_billsOf_32 rfl hl (by decide) rfl (fun ls hl => ?_)
          refine lv_iinc (v := (z3_10 + 1)) (lv' := [(3, .int (z3_10 + 1)), (2, .int x2_17), (0, .ref a0), (1, .int p1)]) hx hb dX8_billsOf_33 hl (k := 3) rfl rfl (by decide) rfl (fun ls hl => ?_)
          refine lv_goto (tgt := 4) hx hb dX8_billsOf_36 (by decide) ?_
          exact ih x2_17 (z3_10 + 1) _ _ _ _ hf hP hD hS (lv_sub hl [2, 3, 1, 0] rfl) hr_4 kx_4
        · have hf := x_t c_16 hf
          refine lv_iconst (v := 1) hx hb dX8_billsOf_26 (by decide) ?_
          refine lv_goto (tgt := 31) hx hb dX8_billsOf_27 (by decide) ?_
          refine lv_iadd hx hb dX8_billsOf_31 ?_
          obtain ⟨x2_18, ex2_18, hf⟩ := lt_el hf
          refine x_topi ex2_18 ?_
          refine lv_istore_n (lv' := [(2, .int x2_18), (0, .ref a0), (1, .int p1), (3, .int z3_10)]) hx hb dX8_billsOf_32 rfl hl (by decide) rfl (fun ls hl => ?_)
          refine lv_iinc (v := (z3_10 + 1)) (lv' := [(3, .int (z3_10 + 1)), (2, .int x2_18), (0, .ref a0), (1, .int p1)]) hx hb dX8_billsOf_33 hl (k := 3) rfl rfl (by decide) rfl (fun ls hl => ?_)
          refine lv_goto (tgt := 4) hx hb dX8_billsOf_36 (by decide) ?_
          exact ih x2_18 (z3_10 + 1) _ _ _ _ hf hP hD hS (lv_sub hl [2, 3, 1, 0] rfl) hr_4 kx_4
  obtain ⟨x2_8, h1_4, hf⟩ := bd1_el hf
  refine hL_4 2147483648 0 0 _ _ _ _ h1_4 hP hD hS (lv_sub hl [2, 3, 1, 0] rfl) trivial (fun x2_89 ho H locs ls hP hD hS hl => ?_)
  cases ho
  refine lv_iload_n hx hb dX8_billsOf_39 rfl (lv_at hl 0 rfl) ?_
  have hf := Option.some.inj hf
  cases hf
  exact x_iret hx hb hr hlocks hK hP hD hS dX8_billsOf_40
theorem kdX8_close : yX8_close.cls = RX8 ∧ yX8_close.cls ≠ "java/lang/invoke/MethodHandle" ∧ yX8_close.cls ≠ "java/lang/invoke/VarHandle" ∧ (parseMethodDescriptor yX8_close.desc).map (fun d => d.parameters.length) = some 1 := by decide +kernel
def rmX8_close : Room := { frames := 2, cells := 0, slots := 0, locals := 45 }
set_option maxHeartbeats 4000000 in
set_option maxRecDepth 100000 in
theorem mX8_close (l : Launch) (D : va_G) (cy : Nat → ClassId) (a0 a1 a2 a3 a4 a5 a6 : Nat) (st : Nat → Int32) (gr : Nat → Int64) (hi : Nat → Int32) (gh : Nat → Int64) (rc : Int32) (tx : Nat → Int32) (tl : Int32) (rk : Nat → Int32) (tb : Int32) (tk : Int64) (at_ : Int32) (ltr : Int32) (on_ : Int32) (tw : Int32) (th : Int32) (nu : Int32) (p1 : Int32) (r : Int32) (st' : Nat → Int32) (gr' : Nat → Int64) (hi' : Nat → Int32) (gh' : Nat → Int64) (rc' : Int32) (hf : fX8_close st gr hi gh rc p1 = some (r, st', gr', hi', gh', rc')) : xMi l D cy yX8_close aX8_close rmX8_close ([.ref a0, .int p1] : List Value) (wX8 cy a0 a1 a2 a3 a4 a5 a6 st gr hi gh rc tx tl rk tb tk at_ ltr on_ tw th nu) (wX8 cy a0 a1 a2 a3 a4 a5 a6 st' gr' hi' gh' rc' tx tl rk tb tk at_ ltr on_ tw th nu) r := by
  intro hz
  refine x_start (Qc := xQi D cy _ r) (cc := cX8_close) (maxL := 5) (ret := (some .int)) (by decide) rfl (Nat.le_of_ble_eq_true rfl) (lv := [(0, .ref a0), (1, .int p1)]) rfl ?_
  intro p e s m below meth c ls A hx hb hr hml hown hts hlocks hK hP hD hS hA hN hl
  have hown : s.vm.findClass RX8 = some m.cls := hown
  have hbg : ∀ w ∈ wsL_law, w ∈ aX8_close := fun w h => List.mem_cons_of_mem _ h
  have wd0 : (Cond.fieldLink RX8 7 "ClientMoneyBookModel" "state" "[I").before ([.ref a0, .int p1] : List Value).toArray s = true := hts _ (List.mem_cons_of_mem _ wm_4_9)
  have wd1 : (Cond.fieldLink RX8 13 "ClientMoneyBookModel" "great" "[J").before ([.ref a0, .int p1] : List Value).toArray s = true := hts _ (List.mem_cons_of_mem _ wm_4_10)
  have iX8 : ∀ w ∈ u_ws RX8 TX8 16, w ∈ aX8_close := fun w h => List.mem_cons_of_mem _ (inlX8 w h)
  unfold fX8_close at hf
  refine lv_aload_n hx hb dX8_close_0 rfl (lv_at hl 0 rfl) ?_
  refine lv_iload_n hx hb dX8_close_1 rfl (lv_at hl 1 rfl) ?_
  obtain ⟨r_1, h_2, hf⟩ := bd1_el hf
  refine x_callVi (As := [.int p1]) (rest := []) ⟨hx, hb, hml, hown, hts⟩ (mX8_find l D cy a0 a1 a2 a3 a4 a5 a6 st gr hi gh rc tx tl rk tb tk at_ ltr on_ tw th nu p1 r_1 h_2) (cwV 1 hts (gcV_X8_find hbg wm_9_5) rfl rfl rfl kdX8_find ⟨Nat.le_of_ble_eq_true rfl, Nat.le_of_ble_eq_true rfl⟩) (w1 := []) (w2 := []) (w' := wX8 cy a0 a1 a2 a3 a4 a5 a6 st gr hi gh rc tx tl rk tb tk at_ ltr on_ tw th nu) (List.append_nil _) (List.append_nil _) hP hK hD hN hS hA (q0 := 0) rfl rfl rfl rfl hl rfl (Nat.le_of_ble_eq_true rfl) dX8_close_2 ⟨Nat.zero_le _, Nat.zero_le _⟩ (fun H locs hP hD hS => ?_)
  refine lv_istore_n (lv' := [(2, .int r_1), (0, .ref a0), (1, .int p1)]) hx hb dX8_close_5 rfl hl (by decide) rfl (fun ls hl => ?_)
  refine lv_iload_n hx hb dX8_close_6 rfl (lv_at hl 0 rfl) ?_
  refine lv_bipush (v := (-6)) hx hb dX8_close_7 (by decide) ?_
  refine lv_icmp_ne (tgt := 14) hx hb dX8_close_9 (by decide) (fun c_3 => ?_) (fun c_3 => ?_)
  · have hf := x_f c_3 hf
    refine lv_aload_n hx hb dX8_close_14 rfl (lv_at hl 1 rfl) ?_
    refine lv_iload_n hx hb dX8_close_15 rfl (lv_at hl 0 rfl) ?_
    refine lv_iconst (v := 1) hx hb dX8_close_16 (by decide) ?_
    obtain ⟨r_4, h_5, hf⟩ := bd1_el hf
    refine x_callVi (As := [.int r_1, .int 1]) (rest := []) ⟨hx, hb, hml, hown, hts⟩ (mX8_part l D cy a0 a1 a2 a3 a4 a5 a6 st gr hi gh rc tx tl rk tb tk at_ ltr on_ tw th nu r_1 1 r_4 h_5) (cwV 2 hts (gcV_X8_part hbg wm_9_9) rfl rfl rfl kdX8_part ⟨Nat.le_of_ble_eq_true rfl, Nat.le_of_ble_eq_true rfl⟩) (w1 := []) (w2 := []) (w' := wX8 cy a0 a1 a2 a3 a4 a5 a6 st gr hi gh rc tx tl rk tb tk at_ ltr on_ tw th nu) (List.append_nil _) (List.append_nil _) hP hK hD hN hS hA (q0 := 0) rfl rfl rfl rfl hl rfl (Nat.le_of_ble_eq_true rfl) dX8_close_17 ⟨Nat.zero_le _, Nat.zero_le _⟩ (fun H locs hP hD hS => ?_)
    refine lv_if_ne (tgt := 31) hx hb dX8_close_20 (by decide) (fun c_6 => ?_) (fun c_6 => ?_)
    · have hf := x_f c_6 hf
      refine lv_bipush (v := (-3)) hx hb dX8_close_31 (by decide) ?_
      have hf := Option.some.inj hf
      cases hf
      exact x_iret hx hb hr hlocks hK hP hD hS dX8_close_33
    · have hf := x_t c_6 hf
      refine lv_aload_n hx hb dX8_close_23 rfl (lv_at hl 1 rfl) ?_
      refine lv_iload_n hx hb dX8_close_24 rfl (lv_at hl 2 rfl) ?_
      obtain ⟨r_7, h_8, hf⟩ := bd1_el hf
      refine x_callVi (As := [.int p1]) (rest := []) ⟨hx, hb, hml, hown, hts⟩ (mX8_billsOf l D cy a0 a1 a2 a3 a4 a5 a6 st gr hi gh rc tx tl rk tb tk at_ ltr on_ tw th nu p1 r_7 h_8) (cwV 1 hts (gcV_X8_billsOf hbg wm_10_21) rfl rfl rfl kdX8_billsOf ⟨Nat.le_of_ble_eq_true rfl, Nat.le_of_ble_eq_true rfl⟩) (w1 := []) (w2 := []) (w' := wX8 cy a0 a1 a2 a3 a4 a5 a6 st gr hi gh rc tx tl rk tb tk at_ ltr on_ tw th nu) (List.append_nil _) (List.append_nil _) hP hK hD hN hS hA (q0 := 0) rfl rfl rfl rfl hl rfl (Nat.le_of_ble_eq_true rfl) dX8_close_25 ⟨Nat.zero_le _, Nat.zero_le _⟩ (fun H locs hP hD hS => ?_)
      refine lv_if_le (tgt := 34) hx hb dX8_close_28 (by decide) (fun c_9 => ?_) (fun c_9 => ?_)
      · have hf := x_t c_9 hf
        refine lv_aload_n hx hb dX8_close_34 rfl (lv_at hl 1 rfl) ?_
        obtain ⟨hi_10, gh_11, rc_12, h_13, hf⟩ := bd3_el hf
        refine x_callVv (As := []) (rest := []) ⟨hx, hb, hml, hown, hts⟩ (mX8_record l D cy a0 a1 a2 a3 a4 a5 a6 st gr hi gh rc tx tl rk tb tk at_ ltr on_ tw th nu  hi_10 gh_11 rc_12 h_13) (cwV 0 hts (gcV_X8_record hbg wm_7_3) rfl rfl rfl kdX8_record ⟨Nat.le_of_ble_eq_true rfl, Nat.le_of_ble_eq_true rfl⟩) (w1 := []) (w2 := []) (w' := wX8 cy a0 a1 a2 a3 a4 a5 a6 st gr hi_10 gh_11 rc_12 tx tl rk tb tk at_ ltr on_ tw th nu) (List.append_nil _) (List.append_nil _) hP hK hD hN hS hA (q0 := 0) rfl rfl rfl rfl hl rfl (Nat.le_of_ble_eq_true rfl) dX8_close_35 ⟨Nat.zero_le _, Nat.zero_le _⟩ (fun H locs hP hD hS => ?_)
        refine lv_aload_n hx hb dX8_close_38 rfl (lv_at hl 1 rfl) ?_
        refine x_get hx hb (C := RX8) (T := TX8) (N := 16) (ci := 8) hts iX8 hown hK hP 0 rfl rfl 0 (by decide) wd0 rfl (.ref a1) rfl dX8_close_39 ?_
        refine lv_iconst (v := 5) hx hb dX8_close_42 (by decide) ?_
        refine lv_dup2_11 hx hb dX8_close_43 rfl rfl ?_
        obtain ⟨hi_14, hf⟩ := ckI_el hf
        refine va_iald hx hb hK hP 1 1 rfl rfl hi_14 dX8_close_44 ?_
        refine lv_iconst (v := 1) hx hb dX8_close_45 (by decide) ?_
        refine lv_isub hx hb dX8_close_46 ?_
        obtain ⟨hi_15, hf⟩ := ckI_el hf
        obtain ⟨st_16, est_16, hf⟩ := lt_el hf
        refine x_iast hx hb hK hP hD hS 1 rfl hi_15 est_16 (w' := wX8 cy a0 a1 a2 a3 a4 a5 a6 st_16 gr hi_10 gh_11 rc_12 tx tl rk tb tk at_ ltr on_ tw th nu) rfl dX8_close_47 (fun H locs hP hD hS => ?_)
        refine lv_iload_n hx hb dX8_close_48 rfl (lv_at hl 0 rfl) ?_
        refine lv_istore_n (lv' := [(3, .int r_1), (2, .int r_1), (0, .ref a0), (1, .int p1)]) hx hb dX8_close_49 rfl hl (by decide) rfl (fun ls hl => ?_)
        have hL_50 : ∀ (n : Nat) (st_46 : Nat → Int32) (gr_47 : Nat → Int64) (z3_48 : Int32) (o : (Nat → Int32) × (Nat → Int64)) (H : Heap) (locs : List Loc) (ls : Array Slot), fX8_close_L50  n st_46 gr_47 z3_48 = some o → va_P D vwCl (wX8 cy a0 a1 a2 a3 a4 a5 a6 st_46 gr_47 hi_10 gh_11 rc_12 tx tl rk tb tk at_ ltr on_ tw th nu) H → va_D A (wX8 cy a0 a1 a2 a3 a4 a5 a6 st_46 gr_47 hi_10 gh_11 rc_12 tx tl rk tb tk at_ ltr on_ tw th nu) → va_S A s.heap H locs → lv_has ls 5 [(0, .ref a0), (3, .int z3_48)] → True → ((∀ (st_49 : Nat → Int32) (gr_50 : Nat → Int64) , o = (st_49, gr_50) → ∀ (H : Heap) (locs : List Loc) (ls : Array Slot), va_P D vwCl (wX8 cy a0 a1 a2 a3 a4 a5 a6 st_49 gr_50 hi_10 gh_11 rc_12 tx tl rk tb tk at_ ltr on_ tw th nu) H → va_D A (wX8 cy a0 a1 a2 a3 a4 a5 a6 st_49 gr_50 hi_10 gh_11 rc_12 tx tl rk tb tk at_ ltr on_ tw th nu) → va_S A s.heap H locs → lv_has ls 5 [(0, .ref a0)] → W p l e rmX8_close s m ([.ref a0, .int p1] : List Value).toArray below meth c H locs 0 0 (MQ below (xQi D cy (wX8 cy a0 a1 a2 a3 a4 a5 a6 st' gr' hi' gh' rc' tx tl rk tb tk at_ ltr on_ tw th nu) r A) ([.ref a0, .int p1] : List Value).toArray s 0 0 A) (F0 m 111 ls []))) → W p l e rmX8_close s m ([.ref a0, .int p1] : List Value).toArray below meth c H locs 0 0 (MQ below (xQi D cy (wX8 cy a0 a1 a2 a3 a4 a5 a6 st' gr' hi' gh' rc' tx tl rk tb tk at_ ltr on_ tw th nu) r A) ([.ref a0, .int p1] : List Value).toArray s 0 0 A) (F0 m 50 ls []) := by
          intro n
          induction n with
          | zero =>
            intro st_46 gr_47 z3_48 o_50 H locs ls hf
            rw [fX8_close_L50] at hf
            cases hf
          | succ n ih =>
            intro st_46 gr_47 z3_48 o_50 H locs ls hf hP hD hS hl hr_50 kx_50
            rw [fX8_close_L50] at hf
            refine lv_iload_n hx hb dX8_close_50 rfl (lv_at hl 1 rfl) ?_
            refine lv_aload_n hx hb dX8_close_51 rfl (lv_at hl 0 rfl) ?_
            refine x_get hx hb (C := RX8) (T := TX8) (N := 16) (ci := 8) hts iX8 hown hK hP 0 rfl rfl 0 (by decide) wd0 rfl (.ref a1) rfl dX8_close_52 ?_
            refine lv_iconst (v := 5) hx hb dX8_close_55 (by decide) ?_
            obtain ⟨hi_51, hf⟩ := ckI_el hf
            refine va_iald hx hb hK hP 1 1 rfl rfl hi_51 dX8_close_56 ?_
            refine lv_icmp_ge (tgt := 111) hx hb dX8_close_57 (by decide) (fun c_52 => ?_) (fun c_52 => ?_)
            · have hf := x_t c_52 hf
              exact kx_50 st_46 gr_47 (Option.some.inj hf).symm _ _ _ hP hD hS (lv_sub hl [0] rfl)
            · have hf := x_f c_52 hf
              refine lv_iconst (v := 0) hx hb dX8_close_60 (by decide) ?_
              refine lv_istore (lv' := [(4, .int 0), (0, .ref a0), (3, .int z3_48)]) hx hb dX8_close_61 hl (by decide) rfl (fun ls hl => ?_)
              have hL_63 : ∀ (n : Nat) (st_57 : Nat → Int32) (z4_58 : Int32) (o : (Nat → Int32)) (H : Heap) (locs : List Loc) (ls : Array Slot), fX8_close_L63 z3_48 n st_57 z4_58 = some o → va_P D vwCl (wX8 cy a0 a1 a2 a3 a4 a5 a6 st_57 gr_47 hi_10 gh_11 rc_12 tx tl rk tb tk at_ ltr on_ tw th nu) H → va_D A (wX8 cy a0 a1 a2 a3 a4 a5 a6 st_57 gr_47 hi_10 gh_11 rc_12 tx tl rk tb tk at_ ltr on_ tw th nu) → va_S A s.heap H locs → lv_has ls 5 [(0, .ref a0), (3, .int z3_48), (4, .int z4_58)] → True → ((∀ (st_59 : Nat → Int32) , o = st_59 → ∀ (H : Heap) (locs : List Loc) (ls : Array Slot), va_P D vwCl (wX8 cy a0 a1 a2 a3 a4 a5 a6 st_59 gr_47 hi_10 gh_11 rc_12 tx tl rk tb tk at_ ltr on_ tw th nu) H → va_D A (wX8 cy a0 a1 a2 a3 a4 a5 a6 st_59 gr_47 hi_10 gh_11 rc_12 tx tl rk tb tk at_ ltr on_ tw th nu) → va_S A s.heap H locs → lv_has ls 5 [(0, .ref a0), (3, .int z3_48)] → W p l e rmX8_close s m ([.ref a0, .int p1] : List Value).toArray below meth c H locs 0 0 (MQ below (xQi D cy (wX8 cy a0 a1 a2 a3 a4 a5 a6 st' gr' hi' gh' rc' tx tl rk tb tk at_ ltr on_ tw th nu) r A) ([.ref a0, .int p1] : List Value).toArray s 0 0 A) (F0 m 91 ls []))) → W p l e rmX8_close s m ([.ref a0, .int p1] : List Value).toArray below meth c H locs 0 0 (MQ below (xQi D cy (wX8 cy a0 a1 a2 a3 a4 a5 a6 st' gr' hi' gh' rc' tx tl rk tb tk at_ ltr on_ tw th nu) r A) ([.ref a0, .int p1] : List Value).toArray s 0 0 A) (F0 m 63 ls []) := by
                intro n
                induction n with
                | zero =>
                  intro st_57 z4_58 o_63 H locs ls hf
                  rw [fX8_close_L63] at hf
                  cases hf
                | succ n ih =>
                  intro st_57 z4_58 o_63 H locs ls hf hP hD hS hl hr_63 kx_63
                  rw [fX8_close_L63] at hf
                  refine lv_iload hx hb dX8_close_63 (lv_at hl 2 rfl) ?_
                  refine lv_iconst (v := 3) hx hb dX8_close_65 (by decide) ?_
                  refine lv_icmp_ge (tgt := 91) hx hb dX8_close_66 (by decide) (fun c_60 => ?_) (fun c_60 => ?_)
                  · have hf := x_t c_60 hf
                    exact kx_63 st_57 (Option.some.inj hf).symm _ _ _ hP hD hS (lv_sub hl [0, 1] rfl)
                  · have hf := x_f c_60 hf
                    refine lv_aload_n hx hb dX8_close_69 rfl (lv_at hl 0 rfl) ?_
                    refine lv_iload_n hx hb dX8_close_70 rfl (lv_at hl 1 rfl) ?_
                    refine lv_iload hx hb dX8_close_71 (lv_at hl 2 rfl) ?_
                    refine lv_aload_n hx hb dX8_close_73 rfl (lv_at hl 0 rfl) ?_
                    refine lv_iload_n hx hb dX8_close_74 rfl (lv_at hl 1 rfl) ?_
                    refine lv_iconst (v := 1) hx hb dX8_close_75 (by decide) ?_
                    refine lv_iadd hx hb dX8_close_76 ?_
                    refine lv_iload hx hb dX8_close_77 (lv_at hl 2 rfl) ?_
                    obtain ⟨r_61, h_62, hf⟩ := bd1_el hf
                    refine x_callVi (As := [.int (z3_48 + 1), .int z4_58]) (rest := [.int z4_58, .int z3_48, .ref a0]) ⟨hx, hb, hml, hown, hts⟩ (mX8_part l D cy a0 a1 a2 a3 a4 a5 a6 st_57 gr_47 hi_10 gh_11 rc_12 tx tl rk tb tk at_ ltr on_ tw th nu (z3_48 + 1) z4_58 r_61 h_62) (cwV 2 hts (gcV_X8_part hbg wm_9_9) rfl rfl rfl kdX8_part ⟨Nat.le_of_ble_eq_true rfl, Nat.le_of_ble_eq_true rfl⟩) (w1 := []) (w2 := []) (w' := wX8 cy a0 a1 a2 a3 a4 a5 a6 st_57 gr_47 hi_10 gh_11 rc_12 tx tl rk tb tk at_ ltr on_ tw th nu) (List.append_nil _) (List.append_nil _) hP hK hD hN hS hA (q0 := 0) rfl rfl rfl rfl hl rfl (Nat.le_of_ble_eq_true rfl) dX8_close_79 ⟨Nat.zero_le _, Nat.zero_le _⟩ (fun H locs hP hD hS => ?_)
                    obtain ⟨st_63, h_64, hf⟩ := bd1_el hf
                    refine x_callVv (As := [.int z3_48, .int z4_58, .int r_61]) (rest := []) ⟨hx, hb, hml, hown, hts⟩ (mX8_setPart l D cy a0 a1 a2 a3 a4 a5 a6 st_57 gr_47 hi_10 gh_11 rc_12 tx tl rk tb tk at_ ltr on_ tw th nu z3_48 z4_58 r_61 st_63 h_64) (cwV 3 hts (gcV_X8_setPart hbg wm_9_13) rfl rfl rfl kdX8_setPart ⟨Nat.le_of_ble_eq_true rfl, Nat.le_of_ble_eq_true rfl⟩) (w1 := []) (w2 := []) (w' := wX8 cy a0 a1 a2 a3 a4 a5 a6 st_63 gr_47 hi_10 gh_11 rc_12 tx tl rk tb tk at_ ltr on_ tw th nu) (List.append_nil _) (List.append_nil _) hP hK hD hN hS hA (q0 := 0) rfl rfl rfl rfl hl rfl (Nat.le_of_ble_eq_true rfl) dX8_close_82 ⟨Nat.zero_le _, Nat.zero_le _⟩ (fun H locs hP hD hS => ?_)
                    refine lv_iinc (v := (z4_58 + 1)) (lv' := [(4, .int (z4_58 + 1)), (0, .ref a0), (3, .int z3_48)]) hx hb dX8_close_85 hl (k := 2) rfl rfl (by decide) rfl (fun ls hl => ?_)
                    refine lv_goto (tgt := 63) hx hb dX8_close_88 (by decide) ?_
                    exact ih st_63 (z4_58 + 1) _ _ _ _ hf hP hD hS (lv_sub hl [1, 2, 0] rfl) hr_63 kx_63
              obtain ⟨st_53, h1_63, hf⟩ := bd1_el hf
              refine hL_63 2147483648 st_46 0 _ _ _ _ h1_63 hP hD hS (lv_sub hl [1, 2, 0] rfl) trivial (fun st_539 ho H locs ls hP hD hS hl => ?_)
              cases ho
              refine lv_aload_n hx hb dX8_close_91 rfl (lv_at hl 0 rfl) ?_
              refine x_get hx hb (C := RX8) (T := TX8) (N := 16) (ci := 8) hts iX8 hown hK hP 0 rfl rfl 1 (by decide) wd1 rfl (.ref a2) rfl dX8_close_92 ?_
              refine lv_iload_n hx hb dX8_close_95 rfl (lv_at hl 1 rfl) ?_
              refine lv_aload_n hx hb dX8_close_96 rfl (lv_at hl 0 rfl) ?_
              refine x_get hx hb (C := RX8) (T := TX8) (N := 16) (ci := 8) hts iX8 hown hK hP 0 rfl rfl 1 (by decide) wd1 rfl (.ref a2) rfl dX8_close_97 ?_
              refine lv_iload_n hx hb dX8_close_100 rfl (lv_at hl 1 rfl) ?_
              refine lv_iconst (v := 1) hx hb dX8_close_101 (by decide) ?_
              refine lv_iadd hx hb dX8_close_102 ?_
              obtain ⟨hi_54, hf⟩ := ckI_el hf
              refine va_lald hx hb hK hP 2 2 rfl rfl hi_54 dX8_close_103 ?_
              obtain ⟨hi_55, hf⟩ := ckI_el hf
              obtain ⟨gr_56, egr_56, hf⟩ := lt_el hf
              refine x_last hx hb hK hP hD hS 2 rfl hi_55 egr_56 (w' := wX8 cy a0 a1 a2 a3 a4 a5 a6 st_53 gr_56 hi_10 gh_11 rc_12 tx tl rk tb tk at_ ltr on_ tw th nu) rfl dX8_close_104 (fun H locs hP hD hS => ?_)
              refine lv_iinc (v := (z3_48 + 1)) (lv' := [(3, .int (z3_48 + 1)), (0, .ref a0)]) hx hb dX8_close_105 hl (k := 1) rfl rfl (by decide) rfl (fun ls hl => ?_)
              refine lv_goto (tgt := 50) hx hb dX8_close_108 (by decide) ?_
              exact ih st_53 gr_56 (z3_48 + 1) _ _ _ _ hf hP hD hS (lv_sub hl [1, 0] rfl) hr_50 kx_50
        obtain ⟨st_28, gr_29, h1_50, hf⟩ := bd2_el hf
        refine hL_50 2147483648 st_16 gr r_1 _ _ _ _ h1_50 hP hD hS (lv_sub hl [2, 0] rfl) trivial (fun st_289 gr_299 ho H locs ls hP hD hS hl => ?_)
        cases ho
        refine lv_iconst (v := 0) hx hb dX8_close_111 (by decide) ?_
        refine lv_istore_n (lv' := [(3, .int 0), (0, .ref a0)]) hx hb dX8_close_112 rfl hl (by decide) rfl (fun ls hl => ?_)
        have hL_113 : ∀ (n : Nat) (st_39 : Nat → Int32) (z3_40 : Int32) (o : (Nat → Int32)) (H : Heap) (locs : List Loc) (ls : Array Slot), fX8_close_L113  n st_39 z3_40 = some o → va_P D vwCl (wX8 cy a0 a1 a2 a3 a4 a5 a6 st_39 gr_29 hi_10 gh_11 rc_12 tx tl rk tb tk at_ ltr on_ tw th nu) H → va_D A (wX8 cy a0 a1 a2 a3 a4 a5 a6 st_39 gr_29 hi_10 gh_11 rc_12 tx tl rk tb tk at_ ltr on_ tw th nu) → va_S A s.heap H locs → lv_has ls 5 [(0, .ref a0), (3, .int z3_40)] → True → ((∀ (st_41 : Nat → Int32) , o = st_41 → ∀ (H : Heap) (locs : List Loc) (ls : Array Slot), va_P D vwCl (wX8 cy a0 a1 a2 a3 a4 a5 a6 st_41 gr_29 hi_10 gh_11 rc_12 tx tl rk tb tk at_ ltr on_ tw th nu) H → va_D A (wX8 cy a0 a1 a2 a3 a4 a5 a6 st_41 gr_29 hi_10 gh_11 rc_12 tx tl rk tb tk at_ ltr on_ tw th nu) → va_S A s.heap H locs → lv_has ls 5 [(0, .ref a0)] → W p l e rmX8_close s m ([.ref a0, .int p1] : List Value).toArray below meth c H locs 0 0 (MQ below (xQi D cy (wX8 cy a0 a1 a2 a3 a4 a5 a6 st' gr' hi' gh' rc' tx tl rk tb tk at_ ltr on_ tw th nu) r A) ([.ref a0, .int p1] : List Value).toArray s 0 0 A) (F0 m 136 ls []))) → W p l e rmX8_close s m ([.ref a0, .int p1] : List Value).toArray below meth c H locs 0 0 (MQ below (xQi D cy (wX8 cy a0 a1 a2 a3 a4 a5 a6 st' gr' hi' gh' rc' tx tl rk tb tk at_ ltr on_ tw th nu) r A) ([.ref a0, .int p1] : List Value).toArray s 0 0 A) (F0 m 113 ls []) := by
          intro n
          induction n with
          | zero =>
            intro st_39 z3_40 o_113 H locs ls hf
            rw [fX8_close_L113] at hf
            cases hf
          | succ n ih =>
            intro st_39 z3_40 o_113 H locs ls hf hP hD hS hl hr_113 kx_113
            rw [fX8_close_L113] at hf
            refine lv_iload_n hx hb dX8_close_113 rfl (lv_at hl 1 rfl) ?_
            refine lv_iconst (v := 3) hx hb dX8_close_114 (by decide) ?_
            refine lv_icmp_ge (tgt := 136) hx hb dX8_close_115 (by decide) (fun c_42 => ?_) (fun c_42 => ?_)
            · have hf := x_t c_42 hf
              exact kx_113 st_39 (Option.some.inj hf).symm _ _ _ hP hD hS (lv_sub hl [0] rfl)
            · have hf := x_f c_42 hf
              refine lv_aload_n hx hb dX8_close_118 rfl (lv_at hl 0 rfl) ?_
              refine lv_aload_n hx hb dX8_close_119 rfl (lv_at hl 0 rfl) ?_
              refine x_get hx hb (C := RX8) (T := TX8) (N := 16) (ci := 8) hts iX8 hown hK hP 0 rfl rfl 0 (by decide) wd0 rfl (.ref a1) rfl dX8_close_120 ?_
              refine lv_iconst (v := 5) hx hb dX8_close_123 (by decide) ?_
              obtain ⟨hi_43, hf⟩ := ckI_el hf
              refine va_iald hx hb hK hP 1 1 rfl rfl hi_43 dX8_close_124 ?_
              refine lv_iload_n hx hb dX8_close_125 rfl (lv_at hl 1 rfl) ?_
              refine lv_iconst (v := 0) hx hb dX8_close_126 (by decide) ?_
              obtain ⟨st_44, h_45, hf⟩ := bd1_el hf
              refine x_callVv (As := [.int (st_39 (5 : Int32).toNatClampNeg), .int z3_40, .int 0]) (rest := []) ⟨hx, hb, hml, hown, hts⟩ (mX8_setPart l D cy a0 a1 a2 a3 a4 a5 a6 st_39 gr_29 hi_10 gh_11 rc_12 tx tl rk tb tk at_ ltr on_ tw th nu (st_39 (5 : Int32).toNatClampNeg) z3_40 0 st_44 h_45) (cwV 3 hts (gcV_X8_setPart hbg wm_9_13) rfl rfl rfl kdX8_setPart ⟨Nat.le_of_ble_eq_true rfl, Nat.le_of_ble_eq_true rfl⟩) (w1 := []) (w2 := []) (w' := wX8 cy a0 a1 a2 a3 a4 a5 a6 st_44 gr_29 hi_10 gh_11 rc_12 tx tl rk tb tk at_ ltr on_ tw th nu) (List.append_nil _) (List.append_nil _) hP hK hD hN hS hA (q0 := 0) rfl rfl rfl rfl hl rfl (Nat.le_of_ble_eq_true rfl) dX8_close_127 ⟨Nat.zero_le _, Nat.zero_le _⟩ (fun H locs hP hD hS => ?_)
              refine lv_iinc (v := (z3_40 + 1)) (lv' := [(3, .int (z3_40 + 1)), (0, .ref a0)]) hx hb dX8_close_130 hl (k := 1) rfl rfl (by decide) rfl (fun ls hl => ?_)
              refine lv_goto (tgt := 113) hx hb dX8_close_133 (by decide) ?_
              exact ih st_44 (z3_40 + 1) _ _ _ _ hf hP hD hS (lv_sub hl [1, 0] rfl) hr_113 kx_113
        obtain ⟨st_34, h1_113, hf⟩ := bd1_el hf
        refine hL_113 2147483648 st_28 0 _ _ _ _ h1_113 hP hD hS (lv_sub hl [1, 0] rfl) trivial (fun st_349 ho H locs ls hP hD hS hl => ?_)
        cases ho
        refine lv_aload_n hx hb dX8_close_136 rfl (lv_at hl 0 rfl) ?_
        refine x_get hx hb (C := RX8) (T := TX8) (N := 16) (ci := 8) hts iX8 hown hK hP 0 rfl rfl 1 (by decide) wd1 rfl (.ref a2) rfl dX8_close_137 ?_
        refine lv_aload_n hx hb dX8_close_140 rfl (lv_at hl 0 rfl) ?_
        refine x_get hx hb (C := RX8) (T := TX8) (N := 16) (ci := 8) hts iX8 hown hK hP 0 rfl rfl 0 (by decide) wd0 rfl (.ref a1) rfl dX8_close_141 ?_
        refine lv_iconst (v := 5) hx hb dX8_close_144 (by decide) ?_
        obtain ⟨hi_35, hf⟩ := ckI_el hf
        refine va_iald hx hb hK hP 1 1 rfl rfl hi_35 dX8_close_145 ?_
        refine lv_lconst (v := 0) hx hb dX8_close_146 (by decide) ?_
        obtain ⟨hi_36, hf⟩ := ckI_el hf
        obtain ⟨gr_37, egr_37, hf⟩ := lt_el hf
        refine x_last hx hb hK hP hD hS 2 rfl hi_36 egr_37 (w' := wX8 cy a0 a1 a2 a3 a4 a5 a6 st_34 gr_37 hi_10 gh_11 rc_12 tx tl rk tb tk at_ ltr on_ tw th nu) rfl dX8_close_147 (fun H locs hP hD hS => ?_)
        refine lv_aload_n hx hb dX8_close_148 rfl (lv_at hl 0 rfl) ?_
        refine x_get hx hb (C := RX8) (T := TX8) (N := 16) (ci := 8) hts iX8 hown hK hP 0 rfl rfl 0 (by decide) wd0 rfl (.ref a1) rfl dX8_close_149 ?_
        refine lv_iconst (v := 5) hx hb dX8_close_152 (by decide) ?_
        obtain ⟨hi_38, hf⟩ := ckI_el hf
        refine va_iald hx hb hK hP 1 1 rfl rfl hi_38 dX8_close_153 ?_
        have hf := Option.some.inj hf
        cases hf
        exact x_iret hx hb hr hlocks hK hP hD hS dX8_close_154
      · have hf := x_f c_9 hf
        refine lv_bipush (v := (-3)) hx hb dX8_close_31 (by decide) ?_
        have hf := Option.some.inj hf
        cases hf
        exact x_iret hx hb hr hlocks hK hP hD hS dX8_close_33
  · have hf := x_t c_3 hf
    refine lv_iconst (v := (-1)) hx hb dX8_close_12 (by decide) ?_
    have hf := Option.some.inj hf
    cases hf
    exact x_iret hx hb hr hlocks hK hP hD hS dX8_close_13
theorem kdX8_isAmount : yX8_isAmount.cls ≠ "java/lang/invoke/MethodHandle" ∧ yX8_isAmount.cls ≠ "java/lang/invoke/VarHandle" ∧ (parseMethodDescriptor yX8_isAmount.desc).map (fun d => d.parameters.length) = some 1 := by decide +kernel
def rmX8_isAmount : Room := { frames := 1, cells := 0, slots := 0, locals := 22 }
set_option maxHeartbeats 4000000 in
set_option maxRecDepth 100000 in
theorem mX8_isAmount (l : Launch) (D : va_G) (cy : Nat → ClassId)  (p1 : Int32) (r : Int32) (hf : fX8_isAmount p1 = some r) : xMi l D cy yX8_isAmount aX8_isAmount rmX8_isAmount ([.int p1] : List Value) ([]) ([]) r := by
  intro hz
  refine x_start (Qc := xQi D cy _ r) (cc := cX8_isAmount) (maxL := 1) (ret := (some .boolean)) (by decide) rfl (Nat.le_of_ble_eq_true rfl) (lv := [(0, .int p1)]) rfl ?_
  intro p e s m below meth c ls A hx hb hr hml hown hts hlocks hK hP hD hS hA hN hl
  have hown : s.vm.findClass RX8 = some m.cls := hown
  have hbg : ∀ w ∈ wsL_law, w ∈ aX8_isAmount := fun w h => List.mem_cons_of_mem _ h
  have wd0 : (Cond.constant RX8 81 (100000000)).before ([.int p1] : List Value).toArray s = true := hts _ (List.mem_cons_of_mem _ wm_13_8)
  unfold fX8_isAmount at hf
  refine lv_iload_n hx hb dX8_isAmount_0 rfl (lv_at hl 0 rfl) ?_
  refine lv_iconst (v := 1) hx hb dX8_isAmount_1 (by decide) ?_
  refine lv_ldc hx hb hown wd0 dX8_isAmount_2 ?_
  obtain ⟨r_1, h_2, hf⟩ := bd1_el hf
  refine x_callSi (As := [.int p1, .int 1, .int 100000000]) (rest := []) ⟨hx, hb, hml, hown, hts⟩ (mX8_within l D cy   p1 1 100000000 r_1 h_2) (va_cwS 3 hts (gcS_X8_within hbg wm_7_0) rfl rfl rfl kdX8_within ⟨Nat.le_of_ble_eq_true rfl, Nat.le_of_ble_eq_true rfl⟩) (w1 := []) (w2 := []) (w' := []) rfl rfl hP hK hD hN hS hA rfl hl rfl (Nat.le_of_ble_eq_true rfl) dX8_isAmount_4 ⟨Nat.zero_le _, Nat.zero_le _⟩ (fun H locs hP hD hS => ?_)
  obtain ⟨hnr, hf⟩ := ckP_el hf
  have hf := Option.some.inj hf
  cases hf
  exact x_zret hx hb hr hlocks hK hP hD hS hnr dX8_isAmount_7
theorem kdX8_hasRoom : yX8_hasRoom.cls = RX8 ∧ yX8_hasRoom.cls ≠ "java/lang/invoke/MethodHandle" ∧ yX8_hasRoom.cls ≠ "java/lang/invoke/VarHandle" ∧ (parseMethodDescriptor yX8_hasRoom.desc).map (fun d => d.parameters.length) = some 2 := by decide +kernel
def rmX8_hasRoom : Room := { frames := 1, cells := 0, slots := 0, locals := 22 }
set_option maxHeartbeats 4000000 in
set_option maxRecDepth 100000 in
theorem mX8_hasRoom (l : Launch) (D : va_G) (cy : Nat → ClassId) (a0 a1 a2 a3 a4 a5 a6 : Nat) (st : Nat → Int32) (gr : Nat → Int64) (hi : Nat → Int32) (gh : Nat → Int64) (rc : Int32) (tx : Nat → Int32) (tl : Int32) (rk : Nat → Int32) (tb : Int32) (tk : Int64) (at_ : Int32) (ltr : Int32) (on_ : Int32) (tw : Int32) (th : Int32) (nu : Int32) (p1 : Int32) (p2 : Int32) (r : Int32) (hf : fX8_hasRoom st p1 p2 = some r) : xMi l D cy yX8_hasRoom aX8_hasRoom rmX8_hasRoom ([.ref a0, .int p1, .int p2] : List Value) (wX8 cy a0 a1 a2 a3 a4 a5 a6 st gr hi gh rc tx tl rk tb tk at_ ltr on_ tw th nu) (wX8 cy a0 a1 a2 a3 a4 a5 a6 st gr hi gh rc tx tl rk tb tk at_ ltr on_ tw th nu) r := by
  intro hz
  refine x_start (Qc := xQi D cy _ r) (cc := cX8_hasRoom) (maxL := 3) (ret := (some .boolean)) (by decide) rfl (Nat.le_of_ble_eq_true rfl) (lv := [(0, .ref a0), (1, .int p1), (2, .int p2)]) rfl ?_
  intro p e s m below meth c ls A hx hb hr hml hown hts hlocks hK hP hD hS hA hN hl
  have hown : s.vm.findClass RX8 = some m.cls := hown
  have hbg : ∀ w ∈ wsL_law, w ∈ aX8_hasRoom := fun w h => List.mem_cons_of_mem _ h
  have wd0 : (Cond.constant RX8 71 (1000000000)).before ([.ref a0, .int p1, .int p2] : List Value).toArray s = true := hts _ (List.mem_cons_of_mem _ wm_6_23)
  unfold fX8_hasRoom at hf
  refine lv_aload_n hx hb dX8_hasRoom_0 rfl (lv_at hl 0 rfl) ?_
  refine lv_iload_n hx hb dX8_hasRoom_1 rfl (lv_at hl 1 rfl) ?_
  refine lv_iconst (v := 1) hx hb dX8_hasRoom_2 (by decide) ?_
  obtain ⟨r_1, h_2, hf⟩ := bd1_el hf
  refine x_callVi (As := [.int p1, .int 1]) (rest := []) ⟨hx, hb, hml, hown, hts⟩ (mX8_part l D cy a0 a1 a2 a3 a4 a5 a6 st gr hi gh rc tx tl rk tb tk at_ ltr on_ tw th nu p1 1 r_1 h_2) (cwV 2 hts (gcV_X8_part hbg wm_9_9) rfl rfl rfl kdX8_part ⟨Nat.le_of_ble_eq_true rfl, Nat.le_of_ble_eq_true rfl⟩) (w1 := []) (w2 := []) (w' := wX8 cy a0 a1 a2 a3 a4 a5 a6 st gr hi gh rc tx tl rk tb tk at_ ltr on_ tw th nu) (List.append_nil _) (List.append_nil _) hP hK hD hN hS hA (q0 := 0) rfl rfl rfl rfl hl rfl (Nat.le_of_ble_eq_true rfl) dX8_hasRoom_3 ⟨Nat.zero_le _, Nat.zero_le _⟩ (fun H locs hP hD hS => ?_)
  refine lv_ldc hx hb hown wd0 dX8_hasRoom_6 ?_
  refine lv_iload_n hx hb dX8_hasRoom_8 rfl (lv_at hl 2 rfl) ?_
  refine lv_isub hx hb dX8_hasRoom_9 ?_
  refine lv_icmp_gt (tgt := 17) hx hb dX8_hasRoom_10 (by decide) (fun c_3 => ?_) (fun c_3 => ?_)
  · have hf := x_t c_3 hf
    refine lv_iconst (v := 0) hx hb dX8_hasRoom_17 (by decide) ?_
    have hf := Option.some.inj hf
    cases hf
    exact x_zret hx hb hr hlocks hK hP hD hS rfl dX8_hasRoom_18
  · have hf := x_f c_3 hf
    refine lv_iconst (v := 1) hx hb dX8_hasRoom_13 (by decide) ?_
    refine lv_goto (tgt := 18) hx hb dX8_hasRoom_14 (by decide) ?_
    have hf := Option.some.inj hf
    cases hf
    exact x_zret hx hb hr hlocks hK hP hD hS rfl dX8_hasRoom_18
theorem kdX8_adds : yX8_adds.cls = RX8 ∧ yX8_adds.cls ≠ "java/lang/invoke/MethodHandle" ∧ yX8_adds.cls ≠ "java/lang/invoke/VarHandle" ∧ (parseMethodDescriptor yX8_adds.desc).map (fun d => d.parameters.length) = some 2 := by decide +kernel
def rmX8_adds : Room := { frames := 1, cells := 0, slots := 0, locals := 23 }
set_option maxHeartbeats 4000000 in
set_option maxRecDepth 100000 in
theorem mX8_adds (l : Launch) (D : va_G) (cy : Nat → ClassId) (a0 a1 a2 a3 a4 a5 a6 : Nat) (st : Nat → Int32) (gr : Nat → Int64) (hi : Nat → Int32) (gh : Nat → Int64) (rc : Int32) (tx : Nat → Int32) (tl : Int32) (rk : Nat → Int32) (tb : Int32) (tk : Int64) (at_ : Int32) (ltr : Int32) (on_ : Int32) (tw : Int32) (th : Int32) (nu : Int32) (p1 : Int32) (p2 : Int32) (r : Int32) (st' : Nat → Int32) (hf : fX8_adds st p1 p2 = some (r, st')) : xMi l D cy yX8_adds aX8_adds rmX8_adds ([.ref a0, .int p1, .int p2] : List Value) (wX8 cy a0 a1 a2 a3 a4 a5 a6 st gr hi gh rc tx tl rk tb tk at_ ltr on_ tw th nu) (wX8 cy a0 a1 a2 a3 a4 a5 a6 st' gr hi gh rc tx tl rk tb tk at_ ltr on_ tw th nu) r := by
  intro hz
  refine x_start (Qc := xQi D cy _ r) (cc := cX8_adds) (maxL := 3) (ret := (some .int)) (by decide) rfl (Nat.le_of_ble_eq_true rfl) (lv := [(0, .ref a0), (1, .int p1), (2, .int p2)]) rfl ?_
  intro p e s m below meth c ls A hx hb hr hml hown hts hlocks hK hP hD hS hA hN hl
  have hown : s.vm.findClass RX8 = some m.cls := hown
  have hbg : ∀ w ∈ wsL_law, w ∈ aX8_adds := fun w h => List.mem_cons_of_mem _ h
  unfold fX8_adds at hf
  refine lv_aload_n hx hb dX8_adds_0 rfl (lv_at hl 0 rfl) ?_
  refine lv_iload_n hx hb dX8_adds_1 rfl (lv_at hl 1 rfl) ?_
  refine lv_iconst (v := 1) hx hb dX8_adds_2 (by decide) ?_
  refine lv_aload_n hx hb dX8_adds_3 rfl (lv_at hl 0 rfl) ?_
  refine lv_iload_n hx hb dX8_adds_4 rfl (lv_at hl 1 rfl) ?_
  refine lv_iconst (v := 1) hx hb dX8_adds_5 (by decide) ?_
  obtain ⟨r_1, h_2, hf⟩ := bd1_el hf
  refine x_callVi (As := [.int p1, .int 1]) (rest := [.int 1, .int p1, .ref a0]) ⟨hx, hb, hml, hown, hts⟩ (mX8_part l D cy a0 a1 a2 a3 a4 a5 a6 st gr hi gh rc tx tl rk tb tk at_ ltr on_ tw th nu p1 1 r_1 h_2) (cwV 2 hts (gcV_X8_part hbg wm_9_9) rfl rfl rfl kdX8_part ⟨Nat.le_of_ble_eq_true rfl, Nat.le_of_ble_eq_true rfl⟩) (w1 := []) (w2 := []) (w' := wX8 cy a0 a1 a2 a3 a4 a5 a6 st gr hi gh rc tx tl rk tb tk at_ ltr on_ tw th nu) (List.append_nil _) (List.append_nil _) hP hK hD hN hS hA (q0 := 0) rfl rfl rfl rfl hl rfl (Nat.le_of_ble_eq_true rfl) dX8_adds_6 ⟨Nat.zero_le _, Nat.zero_le _⟩ (fun H locs hP hD hS => ?_)
  refine lv_iload_n hx hb dX8_adds_9 rfl (lv_at hl 2 rfl) ?_
  refine lv_iadd hx hb dX8_adds_10 ?_
  obtain ⟨st_3, h_4, hf⟩ := bd1_el hf
  refine x_callVv (As := [.int p1, .int 1, .int (r_1 + p2)]) (rest := []) ⟨hx, hb, hml, hown, hts⟩ (mX8_setPart l D cy a0 a1 a2 a3 a4 a5 a6 st gr hi gh rc tx tl rk tb tk at_ ltr on_ tw th nu p1 1 (r_1 + p2) st_3 h_4) (cwV 3 hts (gcV_X8_setPart hbg wm_9_13) rfl rfl rfl kdX8_setPart ⟨Nat.le_of_ble_eq_true rfl, Nat.le_of_ble_eq_true rfl⟩) (w1 := []) (w2 := []) (w' := wX8 cy a0 a1 a2 a3 a4 a5 a6 st_3 gr hi gh rc tx tl rk tb tk at_ ltr on_ tw th nu) (List.append_nil _) (List.append_nil _) hP hK hD hN hS hA (q0 := 0) rfl rfl rfl rfl hl rfl (Nat.le_of_ble_eq_true rfl) dX8_adds_11 ⟨Nat.zero_le _, Nat.zero_le _⟩ (fun H locs hP hD hS => ?_)
  refine lv_aload_n hx hb dX8_adds_14 rfl (lv_at hl 0 rfl) ?_
  refine lv_iload_n hx hb dX8_adds_15 rfl (lv_at hl 1 rfl) ?_
  refine lv_iconst (v := 1) hx hb dX8_adds_16 (by decide) ?_
  obtain ⟨r_5, h_6, hf⟩ := bd1_el hf
  refine x_callVi (As := [.int p1, .int 1]) (rest := []) ⟨hx, hb, hml, hown, hts⟩ (mX8_part l D cy a0 a1 a2 a3 a4 a5 a6 st_3 gr hi gh rc tx tl rk tb tk at_ ltr on_ tw th nu p1 1 r_5 h_6) (cwV 2 hts (gcV_X8_part hbg wm_9_9) rfl rfl rfl kdX8_part ⟨Nat.le_of_ble_eq_true rfl, Nat.le_of_ble_eq_true rfl⟩) (w1 := []) (w2 := []) (w' := wX8 cy a0 a1 a2 a3 a4 a5 a6 st_3 gr hi gh rc tx tl rk tb tk at_ ltr on_ tw th nu) (List.append_nil _) (List.append_nil _) hP hK hD hN hS hA (q0 := 0) rfl rfl rfl rfl hl rfl (Nat.le_of_ble_eq_true rfl) dX8_adds_17 ⟨Nat.zero_le _, Nat.zero_le _⟩ (fun H locs hP hD hS => ?_)
  have hf := Option.some.inj hf
  cases hf
  exact x_iret hx hb hr hlocks hK hP hD hS dX8_adds_20
theorem kdX8_whyNotReceived : yX8_whyNotReceived.cls = RX8 ∧ yX8_whyNotReceived.cls ≠ "java/lang/invoke/MethodHandle" ∧ yX8_whyNotReceived.cls ≠ "java/lang/invoke/VarHandle" ∧ (parseMethodDescriptor yX8_whyNotReceived.desc).map (fun d => d.parameters.length) = some 2 := by decide +kernel
def rmX8_whyNotReceived : Room := { frames := 2, cells := 0, slots := 0, locals := 45 }
set_option maxHeartbeats 4000000 in
set_option maxRecDepth 100000 in
theorem mX8_whyNotReceived (l : Launch) (D : va_G) (cy : Nat → ClassId) (a0 a1 a2 a3 a4 a5 a6 : Nat) (st : Nat → Int32) (gr : Nat → Int64) (hi : Nat → Int32) (gh : Nat → Int64) (rc : Int32) (tx : Nat → Int32) (tl : Int32) (rk : Nat → Int32) (tb : Int32) (tk : Int64) (at_ : Int32) (ltr : Int32) (on_ : Int32) (tw : Int32) (th : Int32) (nu : Int32) (p1 : Int32) (p2 : Int32) (r : Int32) (hf : fX8_whyNotReceived st p1 p2 = some r) : xMi l D cy yX8_whyNotReceived aX8_whyNotReceived rmX8_whyNotReceived ([.ref a0, .int p1, .int p2] : List Value) (wX8 cy a0 a1 a2 a3 a4 a5 a6 st gr hi gh rc tx tl rk tb tk at_ ltr on_ tw th nu) (wX8 cy a0 a1 a2 a3 a4 a5 a6 st gr hi gh rc tx tl rk tb tk at_ ltr on_ tw th nu) r := by
  intro hz
  refine x_start (Qc := xQi D cy _ r) (cc := cX8_whyNotReceived) (maxL := 4) (ret := (some .int)) (by decide) rfl (Nat.le_of_ble_eq_true rfl) (lv := [(0, .ref a0), (1, .int p1), (2, .int p2)]) rfl ?_
  intro p e s m below meth c ls A hx hb hr hml hown hts hlocks hK hP hD hS hA hN hl
  have hown : s.vm.findClass RX8 = some m.cls := hown
  have hbg : ∀ w ∈ wsL_law, w ∈ aX8_whyNotReceived := fun w h => List.mem_cons_of_mem _ h
  unfold fX8_whyNotReceived at hf
  refine lv_aload_n hx hb dX8_whyNotReceived_0 rfl (lv_at hl 0 rfl) ?_
  refine lv_iload_n hx hb dX8_whyNotReceived_1 rfl (lv_at hl 1 rfl) ?_
  obtain ⟨r_1, h_2, hf⟩ := bd1_el hf
  refine x_callVi (As := [.int p1]) (rest := []) ⟨hx, hb, hml, hown, hts⟩ (mX8_find l D cy a0 a1 a2 a3 a4 a5 a6 st gr hi gh rc tx tl rk tb tk at_ ltr on_ tw th nu p1 r_1 h_2) (cwV 1 hts (gcV_X8_find hbg wm_9_5) rfl rfl rfl kdX8_find ⟨Nat.le_of_ble_eq_true rfl, Nat.le_of_ble_eq_true rfl⟩) (w1 := []) (w2 := []) (w' := wX8 cy a0 a1 a2 a3 a4 a5 a6 st gr hi gh rc tx tl rk tb tk at_ ltr on_ tw th nu) (List.append_nil _) (List.append_nil _) hP hK hD hN hS hA (q0 := 0) rfl rfl rfl rfl hl rfl (Nat.le_of_ble_eq_true rfl) dX8_whyNotReceived_2 ⟨Nat.zero_le _, Nat.zero_le _⟩ (fun H locs hP hD hS => ?_)
  refine lv_istore_n (lv' := [(3, .int r_1), (0, .ref a0), (1, .int p1), (2, .int p2)]) hx hb dX8_whyNotReceived_5 rfl hl (by decide) rfl (fun ls hl => ?_)
  refine lv_iload_n hx hb dX8_whyNotReceived_6 rfl (lv_at hl 0 rfl) ?_
  refine lv_bipush (v := (-6)) hx hb dX8_whyNotReceived_7 (by decide) ?_
  refine lv_icmp_ne (tgt := 16) hx hb dX8_whyNotReceived_9 (by decide) (fun c_3 => ?_) (fun c_3 => ?_)
  · have hf := x_f c_3 hf
    refine lv_iload_n hx hb dX8_whyNotReceived_16 rfl (lv_at hl 3 rfl) ?_
    obtain ⟨r_4, h_5, hf⟩ := bd1_el hf
    refine x_callSi (As := [.int p2]) (rest := []) ⟨hx, hb, hml, hown, hts⟩ (mX8_isAmount l D cy   p2 r_4 h_5) (va_cwS 1 hts (gcS_X8_isAmount hbg wm_13_5) rfl rfl rfl kdX8_isAmount ⟨Nat.le_of_ble_eq_true rfl, Nat.le_of_ble_eq_true rfl⟩) (w1 := []) (w2 := wX8 cy a0 a1 a2 a3 a4 a5 a6 st gr hi gh rc tx tl rk tb tk at_ ltr on_ tw th nu) (w' := wX8 cy a0 a1 a2 a3 a4 a5 a6 st gr hi gh rc tx tl rk tb tk at_ ltr on_ tw th nu) rfl rfl hP hK hD hN hS hA rfl hl rfl (Nat.le_of_ble_eq_true rfl) dX8_whyNotReceived_17 ⟨Nat.zero_le _, Nat.zero_le _⟩ (fun H locs hP hD hS => ?_)
    refine lv_if_ne (tgt := 28) hx hb dX8_whyNotReceived_20 (by decide) (fun c_6 => ?_) (fun c_6 => ?_)
    · have hf := x_f c_6 hf
      refine lv_aload_n hx hb dX8_whyNotReceived_28 rfl (lv_at hl 1 rfl) ?_
      refine lv_iload_n hx hb dX8_whyNotReceived_29 rfl (lv_at hl 0 rfl) ?_
      refine lv_iload_n hx hb dX8_whyNotReceived_30 rfl (lv_at hl 3 rfl) ?_
      obtain ⟨r_7, h_8, hf⟩ := bd1_el hf
      refine x_callVi (As := [.int r_1, .int p2]) (rest := []) ⟨hx, hb, hml, hown, hts⟩ (mX8_hasRoom l D cy a0 a1 a2 a3 a4 a5 a6 st gr hi gh rc tx tl rk tb tk at_ ltr on_ tw th nu r_1 p2 r_7 h_8) (cwV 2 hts (gcV_X8_hasRoom hbg wm_13_9) rfl rfl rfl kdX8_hasRoom ⟨Nat.le_of_ble_eq_true rfl, Nat.le_of_ble_eq_true rfl⟩) (w1 := []) (w2 := []) (w' := wX8 cy a0 a1 a2 a3 a4 a5 a6 st gr hi gh rc tx tl rk tb tk at_ ltr on_ tw th nu) (List.append_nil _) (List.append_nil _) hP hK hD hN hS hA (q0 := 0) rfl rfl rfl rfl hl rfl (Nat.le_of_ble_eq_true rfl) dX8_whyNotReceived_31 ⟨Nat.zero_le _, Nat.zero_le _⟩ (fun H locs hP hD hS => ?_)
      refine lv_if_eq (tgt := 41) hx hb dX8_whyNotReceived_34 (by decide) (fun c_9 => ?_) (fun c_9 => ?_)
      · have hf := x_t c_9 hf
        refine lv_bipush (v := (-4)) hx hb dX8_whyNotReceived_41 (by decide) ?_
        have hf := Option.some.inj hf
        cases hf
        exact x_iret hx hb hr hlocks hK hP hD hS dX8_whyNotReceived_43
      · have hf := x_f c_9 hf
        refine lv_iconst (v := 0) hx hb dX8_whyNotReceived_37 (by decide) ?_
        refine lv_goto (tgt := 43) hx hb dX8_whyNotReceived_38 (by decide) ?_
        have hf := Option.some.inj hf
        cases hf
        exact x_iret hx hb hr hlocks hK hP hD hS dX8_whyNotReceived_43
    · have hf := x_t c_6 hf
      refine lv_bipush (v := (-2)) hx hb dX8_whyNotReceived_23 (by decide) ?_
      refine lv_goto (tgt := 43) hx hb dX8_whyNotReceived_25 (by decide) ?_
      have hf := Option.some.inj hf
      cases hf
      exact x_iret hx hb hr hlocks hK hP hD hS dX8_whyNotReceived_43
  · have hf := x_t c_3 hf
    refine lv_iconst (v := (-1)) hx hb dX8_whyNotReceived_12 (by decide) ?_
    refine lv_goto (tgt := 43) hx hb dX8_whyNotReceived_13 (by decide) ?_
    have hf := Option.some.inj hf
    cases hf
    exact x_iret hx hb hr hlocks hK hP hD hS dX8_whyNotReceived_43
theorem kdX8_receives : yX8_receives.cls = RX8 ∧ yX8_receives.cls ≠ "java/lang/invoke/MethodHandle" ∧ yX8_receives.cls ≠ "java/lang/invoke/VarHandle" ∧ (parseMethodDescriptor yX8_receives.desc).map (fun d => d.parameters.length) = some 2 := by decide +kernel
def rmX8_receives : Room := { frames := 2, cells := 0, slots := 0, locals := 51 }
set_option maxHeartbeats 4000000 in
set_option maxRecDepth 100000 in
theorem mX8_receives (l : Launch) (D : va_G) (cy : Nat → ClassId) (a0 a1 a2 a3 a4 a5 a6 : Nat) (st : Nat → Int32) (gr : Nat → Int64) (hi : Nat → Int32) (gh : Nat → Int64) (rc : Int32) (tx : Nat → Int32) (tl : Int32) (rk : Nat → Int32) (tb : Int32) (tk : Int64) (at_ : Int32) (ltr : Int32) (on_ : Int32) (tw : Int32) (th : Int32) (nu : Int32) (p1 : Int32) (p2 : Int32) (r : Int32) (st' : Nat → Int32) (gr' : Nat → Int64) (hf : fX8_receives st gr p1 p2 = some (r, st', gr')) : xMi l D cy yX8_receives aX8_receives rmX8_receives ([.ref a0, .int p1, .int p2] : List Value) (wX8 cy a0 a1 a2 a3 a4 a5 a6 st gr hi gh rc tx tl rk tb tk at_ ltr on_ tw th nu) (wX8 cy a0 a1 a2 a3 a4 a5 a6 st' gr' hi gh rc tx tl rk tb tk at_ ltr on_ tw th nu) r := by
  intro hz
  refine x_start (Qc := xQi D cy _ r) (cc := cX8_receives) (maxL := 4) (ret := (some .int)) (by decide) rfl (Nat.le_of_ble_eq_true rfl) (lv := [(0, .ref a0), (1, .int p1), (2, .int p2)]) rfl ?_
  intro p e s m below meth c ls A hx hb hr hml hown hts hlocks hK hP hD hS hA hN hl
  have hown : s.vm.findClass RX8 = some m.cls := hown
  have hbg : ∀ w ∈ wsL_law, w ∈ aX8_receives := fun w h => List.mem_cons_of_mem _ h
  have wd0 : (Cond.fieldLink RX8 13 "ClientMoneyBookModel" "great" "[J").before ([.ref a0, .int p1, .int p2] : List Value).toArray s = true := hts _ (List.mem_cons_of_mem _ wm_4_10)
  have iX8 : ∀ w ∈ u_ws RX8 TX8 16, w ∈ aX8_receives := fun w h => List.mem_cons_of_mem _ (inlX8 w h)
  unfold fX8_receives at hf
  refine lv_aload_n hx hb dX8_receives_0 rfl (lv_at hl 0 rfl) ?_
  refine x_get hx hb (C := RX8) (T := TX8) (N := 16) (ci := 8) hts iX8 hown hK hP 0 rfl rfl 1 (by decide) wd0 rfl (.ref a2) rfl dX8_receives_1 ?_
  refine lv_bipush (v := 14) hx hb dX8_receives_4 (by decide) ?_
  refine lv_dup2_11 hx hb dX8_receives_6 rfl rfl ?_
  obtain ⟨hi_1, hf⟩ := ckI_el hf
  refine va_lald hx hb hK hP 2 2 rfl rfl hi_1 dX8_receives_7 ?_
  refine lv_iload_n hx hb dX8_receives_8 rfl (lv_at hl 2 rfl) ?_
  refine lv_i2l (v := p2.toInt64) hx hb dX8_receives_9 rfl ?_
  refine lv_ladd hx hb dX8_receives_10 ?_
  obtain ⟨hi_2, hf⟩ := ckI_el hf
  obtain ⟨gr_3, egr_3, hf⟩ := lt_el hf
  refine x_last hx hb hK hP hD hS 2 rfl hi_2 egr_3 (w' := wX8 cy a0 a1 a2 a3 a4 a5 a6 st gr_3 hi gh rc tx tl rk tb tk at_ ltr on_ tw th nu) rfl dX8_receives_11 (fun H locs hP hD hS => ?_)
  refine lv_aload_n hx hb dX8_receives_12 rfl (lv_at hl 0 rfl) ?_
  refine lv_aload_n hx hb dX8_receives_13 rfl (lv_at hl 0 rfl) ?_
  refine lv_iload_n hx hb dX8_receives_14 rfl (lv_at hl 1 rfl) ?_
  obtain ⟨r_4, h_5, hf⟩ := bd1_el hf
  refine x_callVi (As := [.int p1]) (rest := [.ref a0]) ⟨hx, hb, hml, hown, hts⟩ (mX8_find l D cy a0 a1 a2 a3 a4 a5 a6 st gr_3 hi gh rc tx tl rk tb tk at_ ltr on_ tw th nu p1 r_4 h_5) (cwV 1 hts (gcV_X8_find hbg wm_9_5) rfl rfl rfl kdX8_find ⟨Nat.le_of_ble_eq_true rfl, Nat.le_of_ble_eq_true rfl⟩) (w1 := []) (w2 := []) (w' := wX8 cy a0 a1 a2 a3 a4 a5 a6 st gr_3 hi gh rc tx tl rk tb tk at_ ltr on_ tw th nu) (List.append_nil _) (List.append_nil _) hP hK hD hN hS hA (q0 := 0) rfl rfl rfl rfl hl rfl (Nat.le_of_ble_eq_true rfl) dX8_receives_15 ⟨Nat.zero_le _, Nat.zero_le _⟩ (fun H locs hP hD hS => ?_)
  refine lv_iload_n hx hb dX8_receives_18 rfl (lv_at hl 2 rfl) ?_
  obtain ⟨r_6, st_7, h_8, hf⟩ := bd2_el hf
  refine x_callVi (As := [.int r_4, .int p2]) (rest := []) ⟨hx, hb, hml, hown, hts⟩ (mX8_adds l D cy a0 a1 a2 a3 a4 a5 a6 st gr_3 hi gh rc tx tl rk tb tk at_ ltr on_ tw th nu r_4 p2 r_6 st_7 h_8) (cwV 2 hts (gcV_X8_adds hbg wm_13_17) rfl rfl rfl kdX8_adds ⟨Nat.le_of_ble_eq_true rfl, Nat.le_of_ble_eq_true rfl⟩) (w1 := []) (w2 := []) (w' := wX8 cy a0 a1 a2 a3 a4 a5 a6 st_7 gr_3 hi gh rc tx tl rk tb tk at_ ltr on_ tw th nu) (List.append_nil _) (List.append_nil _) hP hK hD hN hS hA (q0 := 0) rfl rfl rfl rfl hl rfl (Nat.le_of_ble_eq_true rfl) dX8_receives_19 ⟨Nat.zero_le _, Nat.zero_le _⟩ (fun H locs hP hD hS => ?_)
  refine lv_istore_n (lv' := [(3, .int r_6), (0, .ref a0), (1, .int p1), (2, .int p2)]) hx hb dX8_receives_22 rfl hl (by decide) rfl (fun ls hl => ?_)
  refine lv_aload_n hx hb dX8_receives_23 rfl (lv_at hl 1 rfl) ?_
  refine lv_iconst (v := 1) hx hb dX8_receives_24 (by decide) ?_
  refine lv_iload_n hx hb dX8_receives_25 rfl (lv_at hl 2 rfl) ?_
  refine lv_iconst (v := 0) hx hb dX8_receives_26 (by decide) ?_
  refine lv_iload_n hx hb dX8_receives_27 rfl (lv_at hl 3 rfl) ?_
  obtain ⟨r_9, st_10, h_11, hf⟩ := bd2_el hf
  refine x_callVi (As := [.int 1, .int p1, .int 0, .int p2]) (rest := []) ⟨hx, hb, hml, hown, hts⟩ (mX8_enters l D cy a0 a1 a2 a3 a4 a5 a6 st_7 gr_3 hi gh rc tx tl rk tb tk at_ ltr on_ tw th nu 1 p1 0 p2 r_9 st_10 h_11) (cwV 4 hts (gcV_X8_enters hbg wm_13_21) rfl rfl rfl kdX8_enters ⟨Nat.le_of_ble_eq_true rfl, Nat.le_of_ble_eq_true rfl⟩) (w1 := []) (w2 := []) (w' := wX8 cy a0 a1 a2 a3 a4 a5 a6 st_10 gr_3 hi gh rc tx tl rk tb tk at_ ltr on_ tw th nu) (List.append_nil _) (List.append_nil _) hP hK hD hN hS hA (q0 := 0) rfl rfl rfl rfl hl rfl (Nat.le_of_ble_eq_true rfl) dX8_receives_28 ⟨Nat.zero_le _, Nat.zero_le _⟩ (fun H locs hP hD hS => ?_)
  refine lv_pop hx hb dX8_receives_31 rfl ?_
  refine lv_iload_n hx hb dX8_receives_32 rfl (lv_at hl 0 rfl) ?_
  have hf := Option.some.inj hf
  cases hf
  exact x_iret hx hb hr hlocks hK hP hD hS dX8_receives_33
theorem kdX8_receive : yX8_receive.cls = RX8 ∧ yX8_receive.cls ≠ "java/lang/invoke/MethodHandle" ∧ yX8_receive.cls ≠ "java/lang/invoke/VarHandle" ∧ (parseMethodDescriptor yX8_receive.desc).map (fun d => d.parameters.length) = some 2 := by decide +kernel
def rmX8_receive : Room := { frames := 3, cells := 0, slots := 0, locals := 74 }
set_option maxHeartbeats 4000000 in
set_option maxRecDepth 100000 in
theorem mX8_receive (l : Launch) (D : va_G) (cy : Nat → ClassId) (a0 a1 a2 a3 a4 a5 a6 : Nat) (st : Nat → Int32) (gr : Nat → Int64) (hi : Nat → Int32) (gh : Nat → Int64) (rc : Int32) (tx : Nat → Int32) (tl : Int32) (rk : Nat → Int32) (tb : Int32) (tk : Int64) (at_ : Int32) (ltr : Int32) (on_ : Int32) (tw : Int32) (th : Int32) (nu : Int32) (p1 : Int32) (p2 : Int32) (r : Int32) (st' : Nat → Int32) (gr' : Nat → Int64) (hi' : Nat → Int32) (gh' : Nat → Int64) (rc' : Int32) (hf : fX8_receive st gr hi gh rc p1 p2 = some (r, st', gr', hi', gh', rc')) : xMi l D cy yX8_receive aX8_receive rmX8_receive ([.ref a0, .int p1, .int p2] : List Value) (wX8 cy a0 a1 a2 a3 a4 a5 a6 st gr hi gh rc tx tl rk tb tk at_ ltr on_ tw th nu) (wX8 cy a0 a1 a2 a3 a4 a5 a6 st' gr' hi' gh' rc' tx tl rk tb tk at_ ltr on_ tw th nu) r := by
  intro hz
  refine x_start (Qc := xQi D cy _ r) (cc := cX8_receive) (maxL := 4) (ret := (some .int)) (by decide) rfl (Nat.le_of_ble_eq_true rfl) (lv := [(0, .ref a0), (1, .int p1), (2, .int p2)]) rfl ?_
  intro p e s m below meth c ls A hx hb hr hml hown hts hlocks hK hP hD hS hA hN hl
  have hown : s.vm.findClass RX8 = some m.cls := hown
  have hbg : ∀ w ∈ wsL_law, w ∈ aX8_receive := fun w h => List.mem_cons_of_mem _ h
  unfold fX8_receive at hf
  refine lv_aload_n hx hb dX8_receive_0 rfl (lv_at hl 0 rfl) ?_
  refine lv_iload_n hx hb dX8_receive_1 rfl (lv_at hl 1 rfl) ?_
  refine lv_iload_n hx hb dX8_receive_2 rfl (lv_at hl 2 rfl) ?_
  obtain ⟨r_1, h_2, hf⟩ := bd1_el hf
  refine x_callVi (As := [.int p1, .int p2]) (rest := []) ⟨hx, hb, hml, hown, hts⟩ (mX8_whyNotReceived l D cy a0 a1 a2 a3 a4 a5 a6 st gr hi gh rc tx tl rk tb tk at_ ltr on_ tw th nu p1 p2 r_1 h_2) (cwV 2 hts (gcV_X8_whyNotReceived hbg wm_13_1) rfl rfl rfl kdX8_whyNotReceived ⟨Nat.le_of_ble_eq_true rfl, Nat.le_of_ble_eq_true rfl⟩) (w1 := []) (w2 := []) (w' := wX8 cy a0 a1 a2 a3 a4 a5 a6 st gr hi gh rc tx tl rk tb tk at_ ltr on_ tw th nu) (List.append_nil _) (List.append_nil _) hP hK hD hN hS hA (q0 := 0) rfl rfl rfl rfl hl rfl (Nat.le_of_ble_eq_true rfl) dX8_receive_3 ⟨Nat.zero_le _, Nat.zero_le _⟩ (fun H locs hP hD hS => ?_)
  refine lv_istore_n (lv' := [(3, .int r_1), (0, .ref a0), (1, .int p1), (2, .int p2)]) hx hb dX8_receive_6 rfl hl (by decide) rfl (fun ls hl => ?_)
  refine lv_iload_n hx hb dX8_receive_7 rfl (lv_at hl 0 rfl) ?_
  refine lv_if_ge (tgt := 13) hx hb dX8_receive_8 (by decide) (fun c_3 => ?_) (fun c_3 => ?_)
  · have hf := x_t c_3 hf
    refine lv_aload_n hx hb dX8_receive_13 rfl (lv_at hl 1 rfl) ?_
    obtain ⟨hi_4, gh_5, rc_6, h_7, hf⟩ := bd3_el hf
    refine x_callVv (As := []) (rest := []) ⟨hx, hb, hml, hown, hts⟩ (mX8_record l D cy a0 a1 a2 a3 a4 a5 a6 st gr hi gh rc tx tl rk tb tk at_ ltr on_ tw th nu  hi_4 gh_5 rc_6 h_7) (cwV 0 hts (gcV_X8_record hbg wm_7_3) rfl rfl rfl kdX8_record ⟨Nat.le_of_ble_eq_true rfl, Nat.le_of_ble_eq_true rfl⟩) (w1 := []) (w2 := []) (w' := wX8 cy a0 a1 a2 a3 a4 a5 a6 st gr hi_4 gh_5 rc_6 tx tl rk tb tk at_ ltr on_ tw th nu) (List.append_nil _) (List.append_nil _) hP hK hD hN hS hA (q0 := 0) rfl rfl rfl rfl hl rfl (Nat.le_of_ble_eq_true rfl) dX8_receive_14 ⟨Nat.zero_le _, Nat.zero_le _⟩ (fun H locs hP hD hS => ?_)
    refine lv_aload_n hx hb dX8_receive_17 rfl (lv_at hl 1 rfl) ?_
    refine lv_iload_n hx hb dX8_receive_18 rfl (lv_at hl 2 rfl) ?_
    refine lv_iload_n hx hb dX8_receive_19 rfl (lv_at hl 3 rfl) ?_
    obtain ⟨r_8, st_9, gr_10, h_11, hf⟩ := bd3_el hf
    refine x_callVi (As := [.int p1, .int p2]) (rest := []) ⟨hx, hb, hml, hown, hts⟩ (mX8_receives l D cy a0 a1 a2 a3 a4 a5 a6 st gr hi_4 gh_5 rc_6 tx tl rk tb tk at_ ltr on_ tw th nu p1 p2 r_8 st_9 gr_10 h_11) (cwV 2 hts (gcV_X8_receives hbg wm_13_13) rfl rfl rfl kdX8_receives ⟨Nat.le_of_ble_eq_true rfl, Nat.le_of_ble_eq_true rfl⟩) (w1 := []) (w2 := []) (w' := wX8 cy a0 a1 a2 a3 a4 a5 a6 st_9 gr_10 hi_4 gh_5 rc_6 tx tl rk tb tk at_ ltr on_ tw th nu) (List.append_nil _) (List.append_nil _) hP hK hD hN hS hA (q0 := 0) rfl rfl rfl rfl hl rfl (Nat.le_of_ble_eq_true rfl) dX8_receive_20 ⟨Nat.zero_le _, Nat.zero_le _⟩ (fun H locs hP hD hS => ?_)
    have hf := Option.some.inj hf
    cases hf
    exact x_iret hx hb hr hlocks hK hP hD hS dX8_receive_23
  · have hf := x_f c_3 hf
    refine lv_iload_n hx hb dX8_receive_11 rfl (lv_at hl 0 rfl) ?_
    have hf := Option.some.inj hf
    cases hf
    exact x_iret hx hb hr hlocks hK hP hD hS dX8_receive_12
theorem kdX8_whyNotPaid : yX8_whyNotPaid.cls = RX8 ∧ yX8_whyNotPaid.cls ≠ "java/lang/invoke/MethodHandle" ∧ yX8_whyNotPaid.cls ≠ "java/lang/invoke/VarHandle" ∧ (parseMethodDescriptor yX8_whyNotPaid.desc).map (fun d => d.parameters.length) = some 2 := by decide +kernel
def rmX8_whyNotPaid : Room := { frames := 4, cells := 0, slots := 0, locals := 88 }
set_option maxHeartbeats 4000000 in
set_option maxRecDepth 100000 in
theorem mX8_whyNotPaid (l : Launch) (D : va_G) (cy : Nat → ClassId) (a0 a1 a2 a3 a4 a5 a6 : Nat) (st : Nat → Int32) (gr : Nat → Int64) (hi : Nat → Int32) (gh : Nat → Int64) (rc : Int32) (tx : Nat → Int32) (tl : Int32) (rk : Nat → Int32) (tb : Int32) (tk : Int64) (at_ : Int32) (ltr : Int32) (on_ : Int32) (tw : Int32) (th : Int32) (nu : Int32) (p1 : Int32) (p2 : Int32) (r : Int32) (hf : fX8_whyNotPaid st p1 p2 = some r) : xMi l D cy yX8_whyNotPaid aX8_whyNotPaid rmX8_whyNotPaid ([.ref a0, .int p1, .int p2] : List Value) (wX8 cy a0 a1 a2 a3 a4 a5 a6 st gr hi gh rc tx tl rk tb tk at_ ltr on_ tw th nu) (wX8 cy a0 a1 a2 a3 a4 a5 a6 st gr hi gh rc tx tl rk tb tk at_ ltr on_ tw th nu) r := by
  intro hz
  refine x_start (Qc := xQi D cy _ r) (cc := cX8_whyNotPaid) (maxL := 4) (ret := (some .int)) (by decide) rfl (Nat.le_of_ble_eq_true rfl) (lv := [(0, .ref a0), (1, .int p1), (2, .int p2)]) rfl ?_
  intro p e s m below meth c ls A hx hb hr hml hown hts hlocks hK hP hD hS hA hN hl
  have hown : s.vm.findClass RX8 = some m.cls := hown
  have hbg : ∀ w ∈ wsL_law, w ∈ aX8_whyNotPaid := fun w h => List.mem_cons_of_mem _ h
  unfold fX8_whyNotPaid at hf
  refine lv_aload_n hx hb dX8_whyNotPaid_0 rfl (lv_at hl 0 rfl) ?_
  refine lv_iload_n hx hb dX8_whyNotPaid_1 rfl (lv_at hl 1 rfl) ?_
  obtain ⟨r_1, h_2, hf⟩ := bd1_el hf
  refine x_callVi (As := [.int p1]) (rest := []) ⟨hx, hb, hml, hown, hts⟩ (mX8_find l D cy a0 a1 a2 a3 a4 a5 a6 st gr hi gh rc tx tl rk tb tk at_ ltr on_ tw th nu p1 r_1 h_2) (cwV 1 hts (gcV_X8_find hbg wm_9_5) rfl rfl rfl kdX8_find ⟨Nat.le_of_ble_eq_true rfl, Nat.le_of_ble_eq_true rfl⟩) (w1 := []) (w2 := []) (w' := wX8 cy a0 a1 a2 a3 a4 a5 a6 st gr hi gh rc tx tl rk tb tk at_ ltr on_ tw th nu) (List.append_nil _) (List.append_nil _) hP hK hD hN hS hA (q0 := 0) rfl rfl rfl rfl hl rfl (Nat.le_of_ble_eq_true rfl) dX8_whyNotPaid_2 ⟨Nat.zero_le _, Nat.zero_le _⟩ (fun H locs hP hD hS => ?_)
  refine lv_istore_n (lv' := [(3, .int r_1), (0, .ref a0), (1, .int p1), (2, .int p2)]) hx hb dX8_whyNotPaid_5 rfl hl (by decide) rfl (fun ls hl => ?_)
  refine lv_iload_n hx hb dX8_whyNotPaid_6 rfl (lv_at hl 0 rfl) ?_
  refine lv_bipush (v := (-6)) hx hb dX8_whyNotPaid_7 (by decide) ?_
  refine lv_icmp_ne (tgt := 16) hx hb dX8_whyNotPaid_9 (by decide) (fun c_3 => ?_) (fun c_3 => ?_)
  · have hf := x_f c_3 hf
    refine lv_iload_n hx hb dX8_whyNotPaid_16 rfl (lv_at hl 3 rfl) ?_
    obtain ⟨r_4, h_5, hf⟩ := bd1_el hf
    refine x_callSi (As := [.int p2]) (rest := []) ⟨hx, hb, hml, hown, hts⟩ (mX8_isAmount l D cy   p2 r_4 h_5) (va_cwS 1 hts (gcS_X8_isAmount hbg wm_13_5) rfl rfl rfl kdX8_isAmount ⟨Nat.le_of_ble_eq_true rfl, Nat.le_of_ble_eq_true rfl⟩) (w1 := []) (w2 := wX8 cy a0 a1 a2 a3 a4 a5 a6 st gr hi gh rc tx tl rk tb tk at_ ltr on_ tw th nu) (w' := wX8 cy a0 a1 a2 a3 a4 a5 a6 st gr hi gh rc tx tl rk tb tk at_ ltr on_ tw th nu) rfl rfl hP hK hD hN hS hA rfl hl rfl (Nat.le_of_ble_eq_true rfl) dX8_whyNotPaid_17 ⟨Nat.zero_le _, Nat.zero_le _⟩ (fun H locs hP hD hS => ?_)
    refine lv_if_ne (tgt := 28) hx hb dX8_whyNotPaid_20 (by decide) (fun c_6 => ?_) (fun c_6 => ?_)
    · have hf := x_f c_6 hf
      refine lv_aload_n hx hb dX8_whyNotPaid_28 rfl (lv_at hl 1 rfl) ?_
      refine lv_iload_n hx hb dX8_whyNotPaid_29 rfl (lv_at hl 0 rfl) ?_
      obtain ⟨r_7, h_8, hf⟩ := bd1_el hf
      refine x_callVi (As := [.int r_1]) (rest := []) ⟨hx, hb, hml, hown, hts⟩ (mX8_free l D cy a0 a1 a2 a3 a4 a5 a6 st gr hi gh rc tx tl rk tb tk at_ ltr on_ tw th nu r_1 r_7 h_8) (cwV 1 hts (gcV_X8_free hbg wm_15_8) rfl rfl rfl kdX8_free ⟨Nat.le_of_ble_eq_true rfl, Nat.le_of_ble_eq_true rfl⟩) (w1 := []) (w2 := []) (w' := wX8 cy a0 a1 a2 a3 a4 a5 a6 st gr hi gh rc tx tl rk tb tk at_ ltr on_ tw th nu) (List.append_nil _) (List.append_nil _) hP hK hD hN hS hA (q0 := 0) rfl rfl rfl rfl hl rfl (Nat.le_of_ble_eq_true rfl) dX8_whyNotPaid_30 ⟨Nat.zero_le _, Nat.zero_le _⟩ (fun H locs hP hD hS => ?_)
      refine lv_iload_n hx hb dX8_whyNotPaid_33 rfl (lv_at hl 3 rfl) ?_
      refine lv_icmp_ge (tgt := 42) hx hb dX8_whyNotPaid_34 (by decide) (fun c_9 => ?_) (fun c_9 => ?_)
      · have hf := x_t c_9 hf
        refine lv_iconst (v := 0) hx hb dX8_whyNotPaid_42 (by decide) ?_
        have hf := Option.some.inj hf
        cases hf
        exact x_iret hx hb hr hlocks hK hP hD hS dX8_whyNotPaid_43
      · have hf := x_f c_9 hf
        refine lv_bipush (v := (-3)) hx hb dX8_whyNotPaid_37 (by decide) ?_
        refine lv_goto (tgt := 43) hx hb dX8_whyNotPaid_39 (by decide) ?_
        have hf := Option.some.inj hf
        cases hf
        exact x_iret hx hb hr hlocks hK hP hD hS dX8_whyNotPaid_43
    · have hf := x_t c_6 hf
      refine lv_bipush (v := (-2)) hx hb dX8_whyNotPaid_23 (by decide) ?_
      refine lv_goto (tgt := 43) hx hb dX8_whyNotPaid_25 (by decide) ?_
      have hf := Option.some.inj hf
      cases hf
      exact x_iret hx hb hr hlocks hK hP hD hS dX8_whyNotPaid_43
  · have hf := x_t c_3 hf
    refine lv_iconst (v := (-1)) hx hb dX8_whyNotPaid_12 (by decide) ?_
    refine lv_goto (tgt := 43) hx hb dX8_whyNotPaid_13 (by decide) ?_
    have hf := Option.some.inj hf
    cases hf
    exact x_iret hx hb hr hlocks hK hP hD hS dX8_whyNotPaid_43
theorem kdX8_pays : yX8_pays.cls = RX8 ∧ yX8_pays.cls ≠ "java/lang/invoke/MethodHandle" ∧ yX8_pays.cls ≠ "java/lang/invoke/VarHandle" ∧ (parseMethodDescriptor yX8_pays.desc).map (fun d => d.parameters.length) = some 2 := by decide +kernel
def rmX8_pays : Room := { frames := 2, cells := 0, slots := 0, locals := 51 }
set_option maxHeartbeats 4000000 in
set_option maxRecDepth 100000 in
theorem mX8_pays (l : Launch) (D : va_G) (cy : Nat → ClassId) (a0 a1 a2 a3 a4 a5 a6 : Nat) (st : Nat → Int32) (gr : Nat → Int64) (hi : Nat → Int32) (gh : Nat → Int64) (rc : Int32) (tx : Nat → Int32) (tl : Int32) (rk : Nat → Int32) (tb : Int32) (tk : Int64) (at_ : Int32) (ltr : Int32) (on_ : Int32) (tw : Int32) (th : Int32) (nu : Int32) (p1 : Int32) (p2 : Int32) (r : Int32) (st' : Nat → Int32) (gr' : Nat → Int64) (hf : fX8_pays st gr p1 p2 = some (r, st', gr')) : xMi l D cy yX8_pays aX8_pays rmX8_pays ([.ref a0, .int p1, .int p2] : List Value) (wX8 cy a0 a1 a2 a3 a4 a5 a6 st gr hi gh rc tx tl rk tb tk at_ ltr on_ tw th nu) (wX8 cy a0 a1 a2 a3 a4 a5 a6 st' gr' hi gh rc tx tl rk tb tk at_ ltr on_ tw th nu) r := by
  intro hz
  refine x_start (Qc := xQi D cy _ r) (cc := cX8_pays) (maxL := 4) (ret := (some .int)) (by decide) rfl (Nat.le_of_ble_eq_true rfl) (lv := [(0, .ref a0), (1, .int p1), (2, .int p2)]) rfl ?_
  intro p e s m below meth c ls A hx hb hr hml hown hts hlocks hK hP hD hS hA hN hl
  have hown : s.vm.findClass RX8 = some m.cls := hown
  have hbg : ∀ w ∈ wsL_law, w ∈ aX8_pays := fun w h => List.mem_cons_of_mem _ h
  have wd0 : (Cond.fieldLink RX8 13 "ClientMoneyBookModel" "great" "[J").before ([.ref a0, .int p1, .int p2] : List Value).toArray s = true := hts _ (List.mem_cons_of_mem _ wm_4_10)
  have iX8 : ∀ w ∈ u_ws RX8 TX8 16, w ∈ aX8_pays := fun w h => List.mem_cons_of_mem _ (inlX8 w h)
  unfold fX8_pays at hf
  refine lv_aload_n hx hb dX8_pays_0 rfl (lv_at hl 0 rfl) ?_
  refine x_get hx hb (C := RX8) (T := TX8) (N := 16) (ci := 8) hts iX8 hown hK hP 0 rfl rfl 1 (by decide) wd0 rfl (.ref a2) rfl dX8_pays_1 ?_
  refine lv_bipush (v := 15) hx hb dX8_pays_4 (by decide) ?_
  refine lv_dup2_11 hx hb dX8_pays_6 rfl rfl ?_
  obtain ⟨hi_1, hf⟩ := ckI_el hf
  refine va_lald hx hb hK hP 2 2 rfl rfl hi_1 dX8_pays_7 ?_
  refine lv_iload_n hx hb dX8_pays_8 rfl (lv_at hl 2 rfl) ?_
  refine lv_i2l (v := p2.toInt64) hx hb dX8_pays_9 rfl ?_
  refine lv_ladd hx hb dX8_pays_10 ?_
  obtain ⟨hi_2, hf⟩ := ckI_el hf
  obtain ⟨gr_3, egr_3, hf⟩ := lt_el hf
  refine x_last hx hb hK hP hD hS 2 rfl hi_2 egr_3 (w' := wX8 cy a0 a1 a2 a3 a4 a5 a6 st gr_3 hi gh rc tx tl rk tb tk at_ ltr on_ tw th nu) rfl dX8_pays_11 (fun H locs hP hD hS => ?_)
  refine lv_aload_n hx hb dX8_pays_12 rfl (lv_at hl 0 rfl) ?_
  refine lv_aload_n hx hb dX8_pays_13 rfl (lv_at hl 0 rfl) ?_
  refine lv_iload_n hx hb dX8_pays_14 rfl (lv_at hl 1 rfl) ?_
  obtain ⟨r_4, h_5, hf⟩ := bd1_el hf
  refine x_callVi (As := [.int p1]) (rest := [.ref a0]) ⟨hx, hb, hml, hown, hts⟩ (mX8_find l D cy a0 a1 a2 a3 a4 a5 a6 st gr_3 hi gh rc tx tl rk tb tk at_ ltr on_ tw th nu p1 r_4 h_5) (cwV 1 hts (gcV_X8_find hbg wm_9_5) rfl rfl rfl kdX8_find ⟨Nat.le_of_ble_eq_true rfl, Nat.le_of_ble_eq_true rfl⟩) (w1 := []) (w2 := []) (w' := wX8 cy a0 a1 a2 a3 a4 a5 a6 st gr_3 hi gh rc tx tl rk tb tk at_ ltr on_ tw th nu) (List.append_nil _) (List.append_nil _) hP hK hD hN hS hA (q0 := 0) rfl rfl rfl rfl hl rfl (Nat.le_of_ble_eq_true rfl) dX8_pays_15 ⟨Nat.zero_le _, Nat.zero_le _⟩ (fun H locs hP hD hS => ?_)
  refine lv_iload_n hx hb dX8_pays_18 rfl (lv_at hl 2 rfl) ?_
  refine lv_ineg hx hb dX8_pays_19 ?_
  obtain ⟨r_6, st_7, h_8, hf⟩ := bd2_el hf
  refine x_callVi (As := [.int r_4, .int (-p2)]) (rest := []) ⟨hx, hb, hml, hown, hts⟩ (mX8_adds l D cy a0 a1 a2 a3 a4 a5 a6 st gr_3 hi gh rc tx tl rk tb tk at_ ltr on_ tw th nu r_4 (-p2) r_6 st_7 h_8) (cwV 2 hts (gcV_X8_adds hbg wm_13_17) rfl rfl rfl kdX8_adds ⟨Nat.le_of_ble_eq_true rfl, Nat.le_of_ble_eq_true rfl⟩) (w1 := []) (w2 := []) (w' := wX8 cy a0 a1 a2 a3 a4 a5 a6 st_7 gr_3 hi gh rc tx tl rk tb tk at_ ltr on_ tw th nu) (List.append_nil _) (List.append_nil _) hP hK hD hN hS hA (q0 := 0) rfl rfl rfl rfl hl rfl (Nat.le_of_ble_eq_true rfl) dX8_pays_20 ⟨Nat.zero_le _, Nat.zero_le _⟩ (fun H locs hP hD hS => ?_)
  refine lv_istore_n (lv' := [(3, .int r_6), (0, .ref a0), (1, .int p1), (2, .int p2)]) hx hb dX8_pays_23 rfl hl (by decide) rfl (fun ls hl => ?_)
  refine lv_aload_n hx hb dX8_pays_24 rfl (lv_at hl 1 rfl) ?_
  refine lv_iconst (v := 2) hx hb dX8_pays_25 (by decide) ?_
  refine lv_iload_n hx hb dX8_pays_26 rfl (lv_at hl 2 rfl) ?_
  refine lv_iconst (v := 0) hx hb dX8_pays_27 (by decide) ?_
  refine lv_iload_n hx hb dX8_pays_28 rfl (lv_at hl 3 rfl) ?_
  obtain ⟨r_9, st_10, h_11, hf⟩ := bd2_el hf
  refine x_callVi (As := [.int 2, .int p1, .int 0, .int p2]) (rest := []) ⟨hx, hb, hml, hown, hts⟩ (mX8_enters l D cy a0 a1 a2 a3 a4 a5 a6 st_7 gr_3 hi gh rc tx tl rk tb tk at_ ltr on_ tw th nu 2 p1 0 p2 r_9 st_10 h_11) (cwV 4 hts (gcV_X8_enters hbg wm_13_21) rfl rfl rfl kdX8_enters ⟨Nat.le_of_ble_eq_true rfl, Nat.le_of_ble_eq_true rfl⟩) (w1 := []) (w2 := []) (w' := wX8 cy a0 a1 a2 a3 a4 a5 a6 st_10 gr_3 hi gh rc tx tl rk tb tk at_ ltr on_ tw th nu) (List.append_nil _) (List.append_nil _) hP hK hD hN hS hA (q0 := 0) rfl rfl rfl rfl hl rfl (Nat.le_of_ble_eq_true rfl) dX8_pays_29 ⟨Nat.zero_le _, Nat.zero_le _⟩ (fun H locs hP hD hS => ?_)
  refine lv_pop hx hb dX8_pays_32 rfl ?_
  refine lv_iload_n hx hb dX8_pays_33 rfl (lv_at hl 0 rfl) ?_
  have hf := Option.some.inj hf
  cases hf
  exact x_iret hx hb hr hlocks hK hP hD hS dX8_pays_34
