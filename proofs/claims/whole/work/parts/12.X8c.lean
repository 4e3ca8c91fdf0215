theorem kdX8_pay : yX8_pay.cls = RX8 ∧ yX8_pay.cls ≠ "java/lang/invoke/MethodHandle" ∧ yX8_pay.cls ≠ "java/lang/invoke/VarHandle" ∧ (parseMethodDescriptor yX8_pay.desc).map (fun d => d.parameters.length) = some 2 := by decide +kernel
def rmX8_pay : Room := { frames := 5, cells := 0, slots := 0, locals := 111 }
set_option maxHeartbeats 4000000 in
set_option maxRecDepth 100000 in
theorem mX8_pay (l : Launch) (D : va_G) (cy : Nat → ClassId) (a0 a1 a2 a3 a4 a5 a6 : Nat) (st : Nat → Int32) (gr : Nat → Int64) (hi : Nat → Int32) (gh : Nat → Int64) (rc : Int32) (tx : Nat → Int32) (tl : Int32) (rk : Nat → Int32) (tb : Int32) (tk : Int64) (at_ : Int32) (ltr : Int32) (on_ : Int32) (tw : Int32) (th : Int32) (nu : Int32) (p1 : Int32) (p2 : Int32) (r : Int32) (st' : Nat → Int32) (gr' : Nat → Int64) (hi' : Nat → Int32) (gh' : Nat → Int64) (rc' : Int32) (hf : fX8_pay st gr hi gh rc p1 p2 = some (r, st', gr', hi', gh', rc')) : xMi l D cy yX8_pay aX8_pay rmX8_pay ([.ref a0, .int p1, .int p2] : List Value) (wX8 cy a0 a1 a2 a3 a4 a5 a6 st gr hi gh rc tx tl rk tb tk at_ ltr on_ tw th nu) (wX8 cy a0 a1 a2 a3 a4 a5 a6 st' gr' hi' gh' rc' tx tl rk tb tk at_ ltr on_ tw th nu) r := by
  intro hz
  refine x_start (Qc := xQi D cy _ r) (cc := cX8_pay) (maxL := 4) (ret := (some .int)) (by decide) rfl (Nat.le_of_ble_eq_true rfl) (lv := [(0, .ref a0), (1, .int p1), (2, .int p2)]) rfl ?_
  intro p e s m below meth c ls A hx hb hr hml hown hts hlocks hK hP hD hS hA hN hl
  have hown : s.vm.findClass RX8 = some m.cls := hown
  have hbg : ∀ w ∈ wsL_law, w ∈ aX8_pay := fun w h => List.mem_cons_of_mem _ h
  unfold fX8_pay at hf
  refine lv_aload_n hx hb dX8_pay_0 rfl (lv_at hl 0 rfl) ?_
  refine lv_iload_n hx hb dX8_pay_1 rfl (lv_at hl 1 rfl) ?_
  refine lv_iload_n hx hb dX8_pay_2 rfl (lv_at hl 2 rfl) ?_
  obtain ⟨r_1, h_2, hf⟩ := bd1_el hf
  refine x_callVi (As := [.int p1, .int p2]) (rest := []) ⟨hx, hb, hml, hown, hts⟩ (mX8_whyNotPaid l D cy a0 a1 a2 a3 a4 a5 a6 st gr hi gh rc tx tl rk tb tk at_ ltr on_ tw th nu p1 p2 r_1 h_2) (cwV 2 hts (gcV_X8_whyNotPaid hbg wm_15_4) rfl rfl rfl kdX8_whyNotPaid ⟨Nat.le_of_ble_eq_true rfl, Nat.le_of_ble_eq_true rfl⟩) (w1 := []) (w2 := []) (w' := wX8 cy a0 a1 a2 a3 a4 a5 a6 st gr hi gh rc tx tl rk tb tk at_ ltr on_ tw th nu) (List.append_nil _) (List.append_nil _) hP hK hD hN hS hA (q0 := 0) rfl rfl rfl rfl hl rfl (Nat.le_of_ble_eq_true rfl) dX8_pay_3 ⟨Nat.zero_le _, Nat.zero_le _⟩ (fun H locs hP hD hS => ?_)
  refine lv_istore_n (lv' := [(3, .int r_1), (0, .ref a0), (1, .int p1), (2, .int p2)]) hx hb dX8_pay_6 rfl hl (by decide) rfl (fun ls hl => ?_)
  refine lv_iload_n hx hb dX8_pay_7 rfl (lv_at hl 0 rfl) ?_
  refine lv_if_ge (tgt := 13) hx hb dX8_pay_8 (by decide) (fun c_3 => ?_) (fun c_3 => ?_)
  · have hf := x_t c_3 hf
    refine lv_aload_n hx hb dX8_pay_13 rfl (lv_at hl 1 rfl) ?_
    obtain ⟨hi_4, gh_5, rc_6, h_7, hf⟩ := bd3_el hf
    refine x_callVv (As := []) (rest := []) ⟨hx, hb, hml, hown, hts⟩ (mX8_record l D cy a0 a1 a2 a3 a4 a5 a6 st gr hi gh rc tx tl rk tb tk at_ ltr on_ tw th nu  hi_4 gh_5 rc_6 h_7) (cwV 0 hts (gcV_X8_record hbg wm_7_3) rfl rfl rfl kdX8_record ⟨Nat.le_of_ble_eq_true rfl, Nat.le_of_ble_eq_true rfl⟩) (w1 := []) (w2 := []) (w' := wX8 cy a0 a1 a2 a3 a4 a5 a6 st gr hi_4 gh_5 rc_6 tx tl rk tb tk at_ ltr on_ tw th nu) (List.append_nil _) (List.append_nil _) hP hK hD hN hS hA (q0 := 0) rfl rfl rfl rfl hl rfl (Nat.le_of_ble_eq_true rfl) dX8_pay_14 ⟨Nat.zero_le _, Nat.zero_le _⟩ (fun H locs hP hD hS => ?_)
    refine lv_aload_n hx hb dX8_pay_17 rfl (lv_at hl 1 rfl) ?_
    refine lv_iload_n hx hb dX8_pay_18 rfl (lv_at hl 2 rfl) ?_
    refine lv_iload_n hx hb dX8_pay_19 rfl (lv_at hl 3 rfl) ?_
    obtain ⟨r_8, st_9, gr_10, h_11, hf⟩ := bd3_el hf
    refine x_callVi (As := [.int p1, .int p2]) (rest := []) ⟨hx, hb, hml, hown, hts⟩ (mX8_pays l D cy a0 a1 a2 a3 a4 a5 a6 st gr hi_4 gh_5 rc_6 tx tl rk tb tk at_ ltr on_ tw th nu p1 p2 r_8 st_9 gr_10 h_11) (cwV 2 hts (gcV_X8_pays hbg wm_16_0) rfl rfl rfl kdX8_pays ⟨Nat.le_of_ble_eq_true rfl, Nat.le_of_ble_eq_true rfl⟩) (w1 := []) (w2 := []) (w' := wX8 cy a0 a1 a2 a3 a4 a5 a6 st_9 gr_10 hi_4 gh_5 rc_6 tx tl rk tb tk at_ ltr on_ tw th nu) (List.append_nil _) (List.append_nil _) hP hK hD hN hS hA (q0 := 0) rfl rfl rfl rfl hl rfl (Nat.le_of_ble_eq_true rfl) dX8_pay_20 ⟨Nat.zero_le _, Nat.zero_le _⟩ (fun H locs hP hD hS => ?_)
    have hf := Option.some.inj hf
    cases hf
    exact x_iret hx hb hr hlocks hK hP hD hS dX8_pay_23
  · have hf := x_f c_3 hf
    refine lv_iload_n hx hb dX8_pay_11 rfl (lv_at hl 0 rfl) ?_
    have hf := Option.some.inj hf
    cases hf
    exact x_iret hx hb hr hlocks hK hP hD hS dX8_pay_12
theorem kdX8_whyNotMoved : yX8_whyNotMoved.cls = RX8 ∧ yX8_whyNotMoved.cls ≠ "java/lang/invoke/MethodHandle" ∧ yX8_whyNotMoved.cls ≠ "java/lang/invoke/VarHandle" ∧ (parseMethodDescriptor yX8_whyNotMoved.desc).map (fun d => d.parameters.length) = some 3 := by decide +kernel
def rmX8_whyNotMoved : Room := { frames := 4, cells := 0, slots := 0, locals := 88 }
set_option maxHeartbeats 4000000 in
set_option maxRecDepth 100000 in
theorem mX8_whyNotMoved (l : Launch) (D : va_G) (cy : Nat → ClassId) (a0 a1 a2 a3 a4 a5 a6 : Nat) (st : Nat → Int32) (gr : Nat → Int64) (hi : Nat → Int32) (gh : Nat → Int64) (rc : Int32) (tx : Nat → Int32) (tl : Int32) (rk : Nat → Int32) (tb : Int32) (tk : Int64) (at_ : Int32) (ltr : Int32) (on_ : Int32) (tw : Int32) (th : Int32) (nu : Int32) (p1 : Int32) (p2 : Int32) (p3 : Int32) (r : Int32) (hf : fX8_whyNotMoved st p1 p2 p3 = some r) : xMi l D cy yX8_whyNotMoved aX8_whyNotMoved rmX8_whyNotMoved ([.ref a0, .int p1, .int p2, .int p3] : List Value) (wX8 cy a0 a1 a2 a3 a4 a5 a6 st gr hi gh rc tx tl rk tb tk at_ ltr on_ tw th nu) (wX8 cy a0 a1 a2 a3 a4 a5 a6 st gr hi gh rc tx tl rk tb tk at_ ltr on_ tw th nu) r := by
  intro hz
  refine x_start (Qc := xQi D cy _ r) (cc := cX8_whyNotMoved) (maxL := 6) (ret := (some .int)) (by decide) rfl (Nat.le_of_ble_eq_true rfl) (lv := [(0, .ref a0), (1, .int p1), (2, .int p2), (3, .int p3)]) rfl ?_
  intro p e s m below meth c ls A hx hb hr hml hown hts hlocks hK hP hD hS hA hN hl
  have hown : s.vm.findClass RX8 = some m.cls := hown
  have hbg : ∀ w ∈ wsL_law, w ∈ aX8_whyNotMoved := fun w h => List.mem_cons_of_mem _ h
  unfold fX8_whyNotMoved at hf
  refine lv_aload_n hx hb dX8_whyNotMoved_0 rfl (lv_at hl 0 rfl) ?_
  refine lv_iload_n hx hb dX8_whyNotMoved_1 rfl (lv_at hl 1 rfl) ?_
  obtain ⟨r_1, h_2, hf⟩ := bd1_el hf
  refine x_callVi (As := [.int p1]) (rest := []) ⟨hx, hb, hml, hown, hts⟩ (mX8_find l D cy a0 a1 a2 a3 a4 a5 a6 st gr hi gh rc tx tl rk tb tk at_ ltr on_ tw th nu p1 r_1 h_2) (cwV 1 hts (gcV_X8_find hbg wm_9_5) rfl rfl rfl kdX8_find ⟨Nat.le_of_ble_eq_true rfl, Nat.le_of_ble_eq_true rfl⟩) (w1 := []) (w2 := []) (w' := wX8 cy a0 a1 a2 a3 a4 a5 a6 st gr hi gh rc tx tl rk tb tk at_ ltr on_ tw th nu) (List.append_nil _) (List.append_nil _) hP hK hD hN hS hA (q0 := 0) rfl rfl rfl rfl hl rfl (Nat.le_of_ble_eq_true rfl) dX8_whyNotMoved_2 ⟨Nat.zero_le _, Nat.zero_le _⟩ (fun H locs hP hD hS => ?_)
  refine lv_istore (lv' := [(4, .int r_1), (0, .ref a0), (1, .int p1), (2, .int p2), (3, .int p3)]) hx hb dX8_whyNotMoved_5 hl (by decide) rfl (fun ls hl => ?_)
  refine lv_aload_n hx hb dX8_whyNotMoved_7 rfl (lv_at hl 1 rfl) ?_
  refine lv_iload_n hx hb dX8_whyNotMoved_8 rfl (lv_at hl 3 rfl) ?_
  obtain ⟨r_3, h_4, hf⟩ := bd1_el hf
  refine x_callVi (As := [.int p2]) (rest := []) ⟨hx, hb, hml, hown, hts⟩ (mX8_find l D cy a0 a1 a2 a3 a4 a5 a6 st gr hi gh rc tx tl rk tb tk at_ ltr on_ tw th nu p2 r_3 h_4) (cwV 1 hts (gcV_X8_find hbg wm_9_5) rfl rfl rfl kdX8_find ⟨Nat.le_of_ble_eq_true rfl, Nat.le_of_ble_eq_true rfl⟩) (w1 := []) (w2 := []) (w' := wX8 cy a0 a1 a2 a3 a4 a5 a6 st gr hi gh rc tx tl rk tb tk at_ ltr on_ tw th nu) (List.append_nil _) (List.append_nil _) hP hK hD hN hS hA (q0 := 0) rfl rfl rfl rfl hl rfl (Nat.le_of_ble_eq_true rfl) dX8_whyNotMoved_9 ⟨Nat.zero_le _, Nat.zero_le _⟩ (fun H locs hP hD hS => ?_)
  refine lv_istore (lv' := [(5, .int r_3), (4, .int r_1), (0, .ref a0), (1, .int p1), (2, .int p2), (3, .int p3)]) hx hb dX8_whyNotMoved_12 hl (by decide) rfl (fun ls hl => ?_)
  refine lv_iload hx hb dX8_whyNotMoved_14 (lv_at hl 1 rfl) ?_
  refine lv_bipush (v := (-6)) hx hb dX8_whyNotMoved_16 (by decide) ?_
  refine lv_icmp_eq (tgt := 28) hx hb dX8_whyNotMoved_18 (by decide) (fun c_5 => ?_) (fun c_5 => ?_)
  · have hf := x_t c_5 hf
    refine lv_iconst (v := (-1)) hx hb dX8_whyNotMoved_28 (by decide) ?_
    have hf := Option.some.inj hf
    cases hf
    exact x_iret hx hb hr hlocks hK hP hD hS dX8_whyNotMoved_29
  · have hf := x_f c_5 hf
    refine lv_iload hx hb dX8_whyNotMoved_21 (lv_at hl 0 rfl) ?_
    refine lv_bipush (v := (-6)) hx hb dX8_whyNotMoved_23 (by decide) ?_
    refine lv_icmp_ne (tgt := 30) hx hb dX8_whyNotMoved_25 (by decide) (fun c_6 => ?_) (fun c_6 => ?_)
    · have hf := x_f c_6 hf
      refine lv_iload_n hx hb dX8_whyNotMoved_30 rfl (lv_at hl 3 rfl) ?_
      refine lv_iload_n hx hb dX8_whyNotMoved_31 rfl (lv_at hl 4 rfl) ?_
      refine lv_icmp_eq (tgt := 42) hx hb dX8_whyNotMoved_32 (by decide) (fun c_7 => ?_) (fun c_7 => ?_)
      · have hf := x_t c_7 hf
        refine lv_bipush (v := (-2)) hx hb dX8_whyNotMoved_42 (by decide) ?_
        have hf := Option.some.inj hf
        cases hf
        exact x_iret hx hb hr hlocks hK hP hD hS dX8_whyNotMoved_44
      · have hf := x_f c_7 hf
        refine lv_iload_n hx hb dX8_whyNotMoved_35 rfl (lv_at hl 5 rfl) ?_
        obtain ⟨r_8, h_9, hf⟩ := bd1_el hf
        refine x_callSi (As := [.int p3]) (rest := []) ⟨hx, hb, hml, hown, hts⟩ (mX8_isAmount l D cy   p3 r_8 h_9) (va_cwS 1 hts (gcS_X8_isAmount hbg wm_13_5) rfl rfl rfl kdX8_isAmount ⟨Nat.le_of_ble_eq_true rfl, Nat.le_of_ble_eq_true rfl⟩) (w1 := []) (w2 := wX8 cy a0 a1 a2 a3 a4 a5 a6 st gr hi gh rc tx tl rk tb tk at_ ltr on_ tw th nu) (w' := wX8 cy a0 a1 a2 a3 a4 a5 a6 st gr hi gh rc tx tl rk tb tk at_ ltr on_ tw th nu) rfl rfl hP hK hD hN hS hA rfl hl rfl (Nat.le_of_ble_eq_true rfl) dX8_whyNotMoved_36 ⟨Nat.zero_le _, Nat.zero_le _⟩ (fun H locs hP hD hS => ?_)
        refine lv_if_ne (tgt := 45) hx hb dX8_whyNotMoved_39 (by decide) (fun c_10 => ?_) (fun c_10 => ?_)
        · have hf := x_f c_10 hf
          refine lv_aload_n hx hb dX8_whyNotMoved_45 rfl (lv_at hl 2 rfl) ?_
          refine lv_iload hx hb dX8_whyNotMoved_46 (lv_at hl 1 rfl) ?_
          obtain ⟨r_11, h_12, hf⟩ := bd1_el hf
          refine x_callVi (As := [.int r_1]) (rest := []) ⟨hx, hb, hml, hown, hts⟩ (mX8_free l D cy a0 a1 a2 a3 a4 a5 a6 st gr hi gh rc tx tl rk tb tk at_ ltr on_ tw th nu r_1 r_11 h_12) (cwV 1 hts (gcV_X8_free hbg wm_15_8) rfl rfl rfl kdX8_free ⟨Nat.le_of_ble_eq_true rfl, Nat.le_of_ble_eq_true rfl⟩) (w1 := []) (w2 := []) (w' := wX8 cy a0 a1 a2 a3 a4 a5 a6 st gr hi gh rc tx tl rk tb tk at_ ltr on_ tw th nu) (List.append_nil _) (List.append_nil _) hP hK hD hN hS hA (q0 := 0) rfl rfl rfl rfl hl rfl (Nat.le_of_ble_eq_true rfl) dX8_whyNotMoved_48 ⟨Nat.zero_le _, Nat.zero_le _⟩ (fun H locs hP hD hS => ?_)
          refine lv_iload_n hx hb dX8_whyNotMoved_51 rfl (lv_at hl 5 rfl) ?_
          refine lv_icmp_ge (tgt := 60) hx hb dX8_whyNotMoved_52 (by decide) (fun c_13 => ?_) (fun c_13 => ?_)
          · have hf := x_t c_13 hf
            refine lv_aload_n hx hb dX8_whyNotMoved_60 rfl (lv_at hl 2 rfl) ?_
            refine lv_iload hx hb dX8_whyNotMoved_61 (lv_at hl 0 rfl) ?_
            refine lv_iload_n hx hb dX8_whyNotMoved_63 rfl (lv_at hl 5 rfl) ?_
            obtain ⟨r_14, h_15, hf⟩ := bd1_el hf
            refine x_callVi (As := [.int r_3, .int p3]) (rest := []) ⟨hx, hb, hml, hown, hts⟩ (mX8_hasRoom l D cy a0 a1 a2 a3 a4 a5 a6 st gr hi gh rc tx tl rk tb tk at_ ltr on_ tw th nu r_3 p3 r_14 h_15) (cwV 2 hts (gcV_X8_hasRoom hbg wm_13_9) rfl rfl rfl kdX8_hasRoom ⟨Nat.le_of_ble_eq_true rfl, Nat.le_of_ble_eq_true rfl⟩) (w1 := []) (w2 := []) (w' := wX8 cy a0 a1 a2 a3 a4 a5 a6 st gr hi gh rc tx tl rk tb tk at_ ltr on_ tw th nu) (List.append_nil _) (List.append_nil _) hP hK hD hN hS hA (q0 := 0) rfl rfl rfl rfl hl rfl (Nat.le_of_ble_eq_true rfl) dX8_whyNotMoved_64 ⟨Nat.zero_le _, Nat.zero_le _⟩ (fun H locs hP hD hS => ?_)
            refine lv_if_eq (tgt := 74) hx hb dX8_whyNotMoved_67 (by decide) (fun c_16 => ?_) (fun c_16 => ?_)
            · have hf := x_t c_16 hf
              refine lv_bipush (v := (-4)) hx hb dX8_whyNotMoved_74 (by decide) ?_
              have hf := Option.some.inj hf
              cases hf
              exact x_iret hx hb hr hlocks hK hP hD hS dX8_whyNotMoved_76
            · have hf := x_f c_16 hf
              refine lv_iconst (v := 0) hx hb dX8_whyNotMoved_70 (by decide) ?_
              refine lv_goto (tgt := 76) hx hb dX8_whyNotMoved_71 (by decide) ?_
              have hf := Option.some.inj hf
              cases hf
              exact x_iret hx hb hr hlocks hK hP hD hS dX8_whyNotMoved_76
          · have hf := x_f c_13 hf
            refine lv_bipush (v := (-3)) hx hb dX8_whyNotMoved_55 (by decide) ?_
            refine lv_goto (tgt := 76) hx hb dX8_whyNotMoved_57 (by decide) ?_
            have hf := Option.some.inj hf
            cases hf
            exact x_iret hx hb hr hlocks hK hP hD hS dX8_whyNotMoved_76
        · have hf := x_t c_10 hf
          refine lv_bipush (v := (-2)) hx hb dX8_whyNotMoved_42 (by decide) ?_
          have hf := Option.some.inj hf
          cases hf
          exact x_iret hx hb hr hlocks hK hP hD hS dX8_whyNotMoved_44
    · have hf := x_t c_6 hf
      refine lv_iconst (v := (-1)) hx hb dX8_whyNotMoved_28 (by decide) ?_
      have hf := Option.some.inj hf
      cases hf
      exact x_iret hx hb hr hlocks hK hP hD hS dX8_whyNotMoved_29
theorem kdX8_transfers : yX8_transfers.cls = RX8 ∧ yX8_transfers.cls ≠ "java/lang/invoke/MethodHandle" ∧ yX8_transfers.cls ≠ "java/lang/invoke/VarHandle" ∧ (parseMethodDescriptor yX8_transfers.desc).map (fun d => d.parameters.length) = some 3 := by decide +kernel
def rmX8_transfers : Room := { frames := 2, cells := 0, slots := 0, locals := 51 }
set_option maxHeartbeats 4000000 in
set_option maxRecDepth 100000 in
theorem mX8_transfers (l : Launch) (D : va_G) (cy : Nat → ClassId) (a0 a1 a2 a3 a4 a5 a6 : Nat) (st : Nat → Int32) (gr : Nat → Int64) (hi : Nat → Int32) (gh : Nat → Int64) (rc : Int32) (tx : Nat → Int32) (tl : Int32) (rk : Nat → Int32) (tb : Int32) (tk : Int64) (at_ : Int32) (ltr : Int32) (on_ : Int32) (tw : Int32) (th : Int32) (nu : Int32) (p1 : Int32) (p2 : Int32) (p3 : Int32) (r : Int32) (st' : Nat → Int32) (hf : fX8_transfers st p1 p2 p3 = some (r, st')) : xMi l D cy yX8_transfers aX8_transfers rmX8_transfers ([.ref a0, .int p1, .int p2, .int p3] : List Value) (wX8 cy a0 a1 a2 a3 a4 a5 a6 st gr hi gh rc tx tl rk tb tk at_ ltr on_ tw th nu) (wX8 cy a0 a1 a2 a3 a4 a5 a6 st' gr hi gh rc tx tl rk tb tk at_ ltr on_ tw th nu) r := by
  intro hz
  refine x_start (Qc := xQi D cy _ r) (cc := cX8_transfers) (maxL := 5) (ret := (some .int)) (by decide) rfl (Nat.le_of_ble_eq_true rfl) (lv := [(0, .ref a0), (1, .int p1), (2, .int p2), (3, .int p3)]) rfl ?_
  intro p e s m below meth c ls A hx hb hr hml hown hts hlocks hK hP hD hS hA hN hl
  have hown : s.vm.findClass RX8 = some m.cls := hown
  have hbg : ∀ w ∈ wsL_law, w ∈ aX8_transfers := fun w h => List.mem_cons_of_mem _ h
  unfold fX8_transfers at hf
  refine lv_aload_n hx hb dX8_transfers_0 rfl (lv_at hl 0 rfl) ?_
  refine lv_aload_n hx hb dX8_transfers_1 rfl (lv_at hl 0 rfl) ?_
  refine lv_iload_n hx hb dX8_transfers_2 rfl (lv_at hl 1 rfl) ?_
  obtain ⟨r_1, h_2, hf⟩ := bd1_el hf
  refine x_callVi (As := [.int p1]) (rest := [.ref a0]) ⟨hx, hb, hml, hown, hts⟩ (mX8_find l D cy a0 a1 a2 a3 a4 a5 a6 st gr hi gh rc tx tl rk tb tk at_ ltr on_ tw th nu p1 r_1 h_2) (cwV 1 hts (gcV_X8_find hbg wm_9_5) rfl rfl rfl kdX8_find ⟨Nat.le_of_ble_eq_true rfl, Nat.le_of_ble_eq_true rfl⟩) (w1 := []) (w2 := []) (w' := wX8 cy a0 a1 a2 a3 a4 a5 a6 st gr hi gh rc tx tl rk tb tk at_ ltr on_ tw th nu) (List.append_nil _) (List.append_nil _) hP hK hD hN hS hA (q0 := 0) rfl rfl rfl rfl hl rfl (Nat.le_of_ble_eq_true rfl) dX8_transfers_3 ⟨Nat.zero_le _, Nat.zero_le _⟩ (fun H locs hP hD hS => ?_)
  refine lv_iload_n hx hb dX8_transfers_6 rfl (lv_at hl 3 rfl) ?_
  refine lv_ineg hx hb dX8_transfers_7 ?_
  obtain ⟨r_3, st_4, h_5, hf⟩ := bd2_el hf
  refine x_callVi (As := [.int r_1, .int (-p3)]) (rest := []) ⟨hx, hb, hml, hown, hts⟩ (mX8_adds l D cy a0 a1 a2 a3 a4 a5 a6 st gr hi gh rc tx tl rk tb tk at_ ltr on_ tw th nu r_1 (-p3) r_3 st_4 h_5) (cwV 2 hts (gcV_X8_adds hbg wm_13_17) rfl rfl rfl kdX8_adds ⟨Nat.le_of_ble_eq_true rfl, Nat.le_of_ble_eq_true rfl⟩) (w1 := []) (w2 := []) (w' := wX8 cy a0 a1 a2 a3 a4 a5 a6 st_4 gr hi gh rc tx tl rk tb tk at_ ltr on_ tw th nu) (List.append_nil _) (List.append_nil _) hP hK hD hN hS hA (q0 := 0) rfl rfl rfl rfl hl rfl (Nat.le_of_ble_eq_true rfl) dX8_transfers_8 ⟨Nat.zero_le _, Nat.zero_le _⟩ (fun H locs hP hD hS => ?_)
  refine lv_istore (lv' := [(4, .int r_3), (0, .ref a0), (1, .int p1), (2, .int p2), (3, .int p3)]) hx hb dX8_transfers_11 hl (by decide) rfl (fun ls hl => ?_)
  refine lv_aload_n hx hb dX8_transfers_13 rfl (lv_at hl 1 rfl) ?_
  refine lv_aload_n hx hb dX8_transfers_14 rfl (lv_at hl 1 rfl) ?_
  refine lv_iload_n hx hb dX8_transfers_15 rfl (lv_at hl 3 rfl) ?_
  obtain ⟨r_6, h_7, hf⟩ := bd1_el hf
  refine x_callVi (As := [.int p2]) (rest := [.ref a0]) ⟨hx, hb, hml, hown, hts⟩ (mX8_find l D cy a0 a1 a2 a3 a4 a5 a6 st_4 gr hi gh rc tx tl rk tb tk at_ ltr on_ tw th nu p2 r_6 h_7) (cwV 1 hts (gcV_X8_find hbg wm_9_5) rfl rfl rfl kdX8_find ⟨Nat.le_of_ble_eq_true rfl, Nat.le_of_ble_eq_true rfl⟩) (w1 := []) (w2 := []) (w' := wX8 cy a0 a1 a2 a3 a4 a5 a6 st_4 gr hi gh rc tx tl rk tb tk at_ ltr on_ tw th nu) (List.append_nil _) (List.append_nil _) hP hK hD hN hS hA (q0 := 0) rfl rfl rfl rfl hl rfl (Nat.le_of_ble_eq_true rfl) dX8_transfers_16 ⟨Nat.zero_le _, Nat.zero_le _⟩ (fun H locs hP hD hS => ?_)
  refine lv_iload_n hx hb dX8_transfers_19 rfl (lv_at hl 4 rfl) ?_
  obtain ⟨r_8, st_9, h_10, hf⟩ := bd2_el hf
  refine x_callVi (As := [.int r_6, .int p3]) (rest := []) ⟨hx, hb, hml, hown, hts⟩ (mX8_adds l D cy a0 a1 a2 a3 a4 a5 a6 st_4 gr hi gh rc tx tl rk tb tk at_ ltr on_ tw th nu r_6 p3 r_8 st_9 h_10) (cwV 2 hts (gcV_X8_adds hbg wm_13_17) rfl rfl rfl kdX8_adds ⟨Nat.le_of_ble_eq_true rfl, Nat.le_of_ble_eq_true rfl⟩) (w1 := []) (w2 := []) (w' := wX8 cy a0 a1 a2 a3 a4 a5 a6 st_9 gr hi gh rc tx tl rk tb tk at_ ltr on_ tw th nu) (List.append_nil _) (List.append_nil _) hP hK hD hN hS hA (q0 := 0) rfl rfl rfl rfl hl rfl (Nat.le_of_ble_eq_true rfl) dX8_transfers_20 ⟨Nat.zero_le _, Nat.zero_le _⟩ (fun H locs hP hD hS => ?_)
  refine lv_pop hx hb dX8_transfers_23 rfl ?_
  refine lv_aload_n hx hb dX8_transfers_24 rfl (lv_at hl 1 rfl) ?_
  refine lv_iconst (v := 3) hx hb dX8_transfers_25 (by decide) ?_
  refine lv_iload_n hx hb dX8_transfers_26 rfl (lv_at hl 2 rfl) ?_
  refine lv_iload_n hx hb dX8_transfers_27 rfl (lv_at hl 3 rfl) ?_
  refine lv_iload_n hx hb dX8_transfers_28 rfl (lv_at hl 4 rfl) ?_
  obtain ⟨r_11, st_12, h_13, hf⟩ := bd2_el hf
  refine x_callVi (As := [.int 3, .int p1, .int p2, .int p3]) (rest := []) ⟨hx, hb, hml, hown, hts⟩ (mX8_enters l D cy a0 a1 a2 a3 a4 a5 a6 st_9 gr hi gh rc tx tl rk tb tk at_ ltr on_ tw th nu 3 p1 p2 p3 r_11 st_12 h_13) (cwV 4 hts (gcV_X8_enters hbg wm_13_21) rfl rfl rfl kdX8_enters ⟨Nat.le_of_ble_eq_true rfl, Nat.le_of_ble_eq_true rfl⟩) (w1 := []) (w2 := []) (w' := wX8 cy a0 a1 a2 a3 a4 a5 a6 st_12 gr hi gh rc tx tl rk tb tk at_ ltr on_ tw th nu) (List.append_nil _) (List.append_nil _) hP hK hD hN hS hA (q0 := 0) rfl rfl rfl rfl hl rfl (Nat.le_of_ble_eq_true rfl) dX8_transfers_29 ⟨Nat.zero_le _, Nat.zero_le _⟩ (fun H locs hP hD hS => ?_)
  refine lv_pop hx hb dX8_transfers_32 rfl ?_
  refine lv_iload hx hb dX8_transfers_33 (lv_at hl 0 rfl) ?_
  have hf := Option.some.inj hf
  cases hf
  exact x_iret hx hb hr hlocks hK hP hD hS dX8_transfers_35
theorem kdX8_transfer : yX8_transfer.cls = RX8 ∧ yX8_transfer.cls ≠ "java/lang/invoke/MethodHandle" ∧ yX8_transfer.cls ≠ "java/lang/invoke/VarHandle" ∧ (parseMethodDescriptor yX8_transfer.desc).map (fun d => d.parameters.length) = some 3 := by decide +kernel
def rmX8_transfer : Room := { frames := 5, cells := 0, slots := 0, locals := 113 }
set_option maxHeartbeats 4000000 in
set_option maxRecDepth 100000 in
theorem mX8_transfer (l : Launch) (D : va_G) (cy : Nat → ClassId) (a0 a1 a2 a3 a4 a5 a6 : Nat) (st : Nat → Int32) (gr : Nat → Int64) (hi : Nat → Int32) (gh : Nat → Int64) (rc : Int32) (tx : Nat → Int32) (tl : Int32) (rk : Nat → Int32) (tb : Int32) (tk : Int64) (at_ : Int32) (ltr : Int32) (on_ : Int32) (tw : Int32) (th : Int32) (nu : Int32) (p1 : Int32) (p2 : Int32) (p3 : Int32) (r : Int32) (st' : Nat → Int32) (hi' : Nat → Int32) (gh' : Nat → Int64) (rc' : Int32) (hf : fX8_transfer st gr hi gh rc p1 p2 p3 = some (r, st', hi', gh', rc')) : xMi l D cy yX8_transfer aX8_transfer rmX8_transfer ([.ref a0, .int p1, .int p2, .int p3] : List Value) (wX8 cy a0 a1 a2 a3 a4 a5 a6 st gr hi gh rc tx tl rk tb tk at_ ltr on_ tw th nu) (wX8 cy a0 a1 a2 a3 a4 a5 a6 st' gr hi' gh' rc' tx tl rk tb tk at_ ltr on_ tw th nu) r := by
  intro hz
  refine x_start (Qc := xQi D cy _ r) (cc := cX8_transfer) (maxL := 5) (ret := (some .int)) (by decide) rfl (Nat.le_of_ble_eq_true rfl) (lv := [(0, .ref a0), (1, .int p1), (2, .int p2), (3, .int p3)]) rfl ?_
  intro p e s m below meth c ls A hx hb hr hml hown hts hlocks hK hP hD hS hA hN hl
  have hown : s.vm.findClass RX8 = some m.cls := hown
  have hbg : ∀ w ∈ wsL_law, w ∈ aX8_transfer := fun w h => List.mem_cons_of_mem _ h
  unfold fX8_transfer at hf
  refine lv_aload_n hx hb dX8_transfer_0 rfl (lv_at hl 0 rfl) ?_
  refine lv_iload_n hx hb dX8_transfer_1 rfl (lv_at hl 1 rfl) ?_
  refine lv_iload_n hx hb dX8_transfer_2 rfl (lv_at hl 2 rfl) ?_
  refine lv_iload_n hx hb dX8_transfer_3 rfl (lv_at hl 3 rfl) ?_
  obtain ⟨r_1, h_2, hf⟩ := bd1_el hf
  refine x_callVi (As := [.int p1, .int p2, .int p3]) (rest := []) ⟨hx, hb, hml, hown, hts⟩ (mX8_whyNotMoved l D cy a0 a1 a2 a3 a4 a5 a6 st gr hi gh rc tx tl rk tb tk at_ ltr on_ tw th nu p1 p2 p3 r_1 h_2) (cwV 3 hts (gcV_X8_whyNotMoved hbg wm_16_16) rfl rfl rfl kdX8_whyNotMoved ⟨Nat.le_of_ble_eq_true rfl, Nat.le_of_ble_eq_true rfl⟩) (w1 := []) (w2 := []) (w' := wX8 cy a0 a1 a2 a3 a4 a5 a6 st gr hi gh rc tx tl rk tb tk at_ ltr on_ tw th nu) (List.append_nil _) (List.append_nil _) hP hK hD hN hS hA (q0 := 0) rfl rfl rfl rfl hl rfl (Nat.le_of_ble_eq_true rfl) dX8_transfer_4 ⟨Nat.zero_le _, Nat.zero_le _⟩ (fun H locs hP hD hS => ?_)
  refine lv_istore (lv' := [(4, .int r_1), (0, .ref a0), (1, .int p1), (2, .int p2), (3, .int p3)]) hx hb dX8_transfer_7 hl (by decide) rfl (fun ls hl => ?_)
  refine lv_iload hx hb dX8_transfer_9 (lv_at hl 0 rfl) ?_
  refine lv_if_ge (tgt := 17) hx hb dX8_transfer_11 (by decide) (fun c_3 => ?_) (fun c_3 => ?_)
  · have hf := x_t c_3 hf
    refine lv_aload_n hx hb dX8_transfer_17 rfl (lv_at hl 1 rfl) ?_
    obtain ⟨hi_4, gh_5, rc_6, h_7, hf⟩ := bd3_el hf
    refine x_callVv (As := []) (rest := []) ⟨hx, hb, hml, hown, hts⟩ (mX8_record l D cy a0 a1 a2 a3 a4 a5 a6 st gr hi gh rc tx tl rk tb tk at_ ltr on_ tw th nu  hi_4 gh_5 rc_6 h_7) (cwV 0 hts (gcV_X8_record hbg wm_7_3) rfl rfl rfl kdX8_record ⟨Nat.le_of_ble_eq_true rfl, Nat.le_of_ble_eq_true rfl⟩) (w1 := []) (w2 := []) (w' := wX8 cy a0 a1 a2 a3 a4 a5 a6 st gr hi_4 gh_5 rc_6 tx tl rk tb tk at_ ltr on_ tw th nu) (List.append_nil _) (List.append_nil _) hP hK hD hN hS hA (q0 := 0) rfl rfl rfl rfl hl rfl (Nat.le_of_ble_eq_true rfl) dX8_transfer_18 ⟨Nat.zero_le _, Nat.zero_le _⟩ (fun H locs hP hD hS => ?_)
    refine lv_aload_n hx hb dX8_transfer_21 rfl (lv_at hl 1 rfl) ?_
    refine lv_iload_n hx hb dX8_transfer_22 rfl (lv_at hl 2 rfl) ?_
    refine lv_iload_n hx hb dX8_transfer_23 rfl (lv_at hl 3 rfl) ?_
    refine lv_iload_n hx hb dX8_transfer_24 rfl (lv_at hl 4 rfl) ?_
    obtain ⟨r_8, st_9, h_10, hf⟩ := bd2_el hf
    refine x_callVi (As := [.int p1, .int p2, .int p3]) (rest := []) ⟨hx, hb, hml, hown, hts⟩ (mX8_transfers l D cy a0 a1 a2 a3 a4 a5 a6 st gr hi_4 gh_5 rc_6 tx tl rk tb tk at_ ltr on_ tw th nu p1 p2 p3 r_8 st_9 h_10) (cwV 3 hts (gcV_X8_transfers hbg wm_16_20) rfl rfl rfl kdX8_transfers ⟨Nat.le_of_ble_eq_true rfl, Nat.le_of_ble_eq_true rfl⟩) (w1 := []) (w2 := []) (w' := wX8 cy a0 a1 a2 a3 a4 a5 a6 st_9 gr hi_4 gh_5 rc_6 tx tl rk tb tk at_ ltr on_ tw th nu) (List.append_nil _) (List.append_nil _) hP hK hD hN hS hA (q0 := 0) rfl rfl rfl rfl hl rfl (Nat.le_of_ble_eq_true rfl) dX8_transfer_25 ⟨Nat.zero_le _, Nat.zero_le _⟩ (fun H locs hP hD hS => ?_)
    have hf := Option.some.inj hf
    cases hf
    exact x_iret hx hb hr hlocks hK hP hD hS dX8_transfer_28
  · have hf := x_f c_3 hf
    refine lv_iload hx hb dX8_transfer_14 (lv_at hl 0 rfl) ?_
    have hf := Option.some.inj hf
    cases hf
    exact x_iret hx hb hr hlocks hK hP hD hS dX8_transfer_16
theorem kdX8_hold : yX8_hold.cls = RX8 ∧ yX8_hold.cls ≠ "java/lang/invoke/MethodHandle" ∧ yX8_hold.cls ≠ "java/lang/invoke/VarHandle" ∧ (parseMethodDescriptor yX8_hold.desc).map (fun d => d.parameters.length) = some 3 := by decide +kernel
def rmX8_hold : Room := { frames := 4, cells := 0, slots := 0, locals := 88 }
set_option maxHeartbeats 4000000 in
set_option maxRecDepth 100000 in
theorem mX8_hold (l : Launch) (D : va_G) (cy : Nat → ClassId) (a0 a1 a2 a3 a4 a5 a6 : Nat) (st : Nat → Int32) (gr : Nat → Int64) (hi : Nat → Int32) (gh : Nat → Int64) (rc : Int32) (tx : Nat → Int32) (tl : Int32) (rk : Nat → Int32) (tb : Int32) (tk : Int64) (at_ : Int32) (ltr : Int32) (on_ : Int32) (tw : Int32) (th : Int32) (nu : Int32) (p1 : Int32) (p2 : Int32) (p3 : Int32) (r : Int32) (st' : Nat → Int32) (hi' : Nat → Int32) (gh' : Nat → Int64) (rc' : Int32) (hf : fX8_hold st gr hi gh rc p1 p2 p3 = some (r, st', hi', gh', rc')) : xMi l D cy yX8_hold aX8_hold rmX8_hold ([.ref a0, .int p1, .int p2, .int p3] : List Value) (wX8 cy a0 a1 a2 a3 a4 a5 a6 st gr hi gh rc tx tl rk tb tk at_ ltr on_ tw th nu) (wX8 cy a0 a1 a2 a3 a4 a5 a6 st' gr hi' gh' rc' tx tl rk tb tk at_ ltr on_ tw th nu) r := by
  intro hz
  refine x_start (Qc := xQi D cy _ r) (cc := cX8_hold) (maxL := 6) (ret := (some .int)) (by decide) rfl (Nat.le_of_ble_eq_true rfl) (lv := [(0, .ref a0), (1, .int p1), (2, .int p2), (3, .int p3)]) rfl ?_
  intro p e s m below meth c ls A hx hb hr hml hown hts hlocks hK hP hD hS hA hN hl
  have hown : s.vm.findClass RX8 = some m.cls := hown
  have hbg : ∀ w ∈ wsL_law, w ∈ aX8_hold := fun w h => List.mem_cons_of_mem _ h
  have wd0 : (Cond.fieldLink RX8 7 "ClientMoneyBookModel" "state" "[I").before ([.ref a0, .int p1, .int p2, .int p3] : List Value).toArray s = true := hts _ (List.mem_cons_of_mem _ wm_4_9)
  have iX8 : ∀ w ∈ u_ws RX8 TX8 16, w ∈ aX8_hold := fun w h => List.mem_cons_of_mem _ (inlX8 w h)
  unfold fX8_hold at hf
  refine lv_aload_n hx hb dX8_hold_0 rfl (lv_at hl 0 rfl) ?_
  refine lv_iload_n hx hb dX8_hold_1 rfl (lv_at hl 1 rfl) ?_
  obtain ⟨r_1, h_2, hf⟩ := bd1_el hf
  refine x_callVi (As := [.int p1]) (rest := []) ⟨hx, hb, hml, hown, hts⟩ (mX8_find l D cy a0 a1 a2 a3 a4 a5 a6 st gr hi gh rc tx tl rk tb tk at_ ltr on_ tw th nu p1 r_1 h_2) (cwV 1 hts (gcV_X8_find hbg wm_9_5) rfl rfl rfl kdX8_find ⟨Nat.le_of_ble_eq_true rfl, Nat.le_of_ble_eq_true rfl⟩) (w1 := []) (w2 := []) (w' := wX8 cy a0 a1 a2 a3 a4 a5 a6 st gr hi gh rc tx tl rk tb tk at_ ltr on_ tw th nu) (List.append_nil _) (List.append_nil _) hP hK hD hN hS hA (q0 := 0) rfl rfl rfl rfl hl rfl (Nat.le_of_ble_eq_true rfl) dX8_hold_2 ⟨Nat.zero_le _, Nat.zero_le _⟩ (fun H locs hP hD hS => ?_)
  refine lv_istore (lv' := [(4, .int r_1), (0, .ref a0), (1, .int p1), (2, .int p2), (3, .int p3)]) hx hb dX8_hold_5 hl (by decide) rfl (fun ls hl => ?_)
  refine lv_iload hx hb dX8_hold_7 (lv_at hl 0 rfl) ?_
  refine lv_bipush (v := (-6)) hx hb dX8_hold_9 (by decide) ?_
  refine lv_icmp_ne (tgt := 16) hx hb dX8_hold_11 (by decide) (fun c_3 => ?_) (fun c_3 => ?_)
  · have hf := x_f c_3 hf
    refine lv_iload_n hx hb dX8_hold_16 rfl (lv_at hl 3 rfl) ?_
    obtain ⟨r_4, h_5, hf⟩ := bd1_el hf
    refine x_callSi (As := [.int p2]) (rest := []) ⟨hx, hb, hml, hown, hts⟩ (mX8_isAmount l D cy   p2 r_4 h_5) (va_cwS 1 hts (gcS_X8_isAmount hbg wm_13_5) rfl rfl rfl kdX8_isAmount ⟨Nat.le_of_ble_eq_true rfl, Nat.le_of_ble_eq_true rfl⟩) (w1 := []) (w2 := wX8 cy a0 a1 a2 a3 a4 a5 a6 st gr hi gh rc tx tl rk tb tk at_ ltr on_ tw th nu) (w' := wX8 cy a0 a1 a2 a3 a4 a5 a6 st gr hi gh rc tx tl rk tb tk at_ ltr on_ tw th nu) rfl rfl hP hK hD hN hS hA rfl hl rfl (Nat.le_of_ble_eq_true rfl) dX8_hold_17 ⟨Nat.zero_le _, Nat.zero_le _⟩ (fun H locs hP hD hS => ?_)
    refine lv_if_eq (tgt := 34) hx hb dX8_hold_20 (by decide) (fun c_6 => ?_) (fun c_6 => ?_)
    · have hf := x_t c_6 hf
      refine lv_bipush (v := (-2)) hx hb dX8_hold_34 (by decide) ?_
      have hf := Option.some.inj hf
      cases hf
      exact x_iret hx hb hr hlocks hK hP hD hS dX8_hold_36
    · have hf := x_f c_6 hf
      refine lv_iload_n hx hb dX8_hold_23 rfl (lv_at hl 4 rfl) ?_
      refine lv_iconst (v := 1) hx hb dX8_hold_24 (by decide) ?_
      refine lv_sipush (v := 999) hx hb dX8_hold_25 (by decide) ?_
      obtain ⟨r_7, h_8, hf⟩ := bd1_el hf
      refine x_callSi (As := [.int p3, .int 1, .int 999]) (rest := []) ⟨hx, hb, hml, hown, hts⟩ (mX8_within l D cy   p3 1 999 r_7 h_8) (va_cwS 3 hts (gcS_X8_within hbg wm_7_0) rfl rfl rfl kdX8_within ⟨Nat.le_of_ble_eq_true rfl, Nat.le_of_ble_eq_true rfl⟩) (w1 := []) (w2 := wX8 cy a0 a1 a2 a3 a4 a5 a6 st gr hi gh rc tx tl rk tb tk at_ ltr on_ tw th nu) (w' := wX8 cy a0 a1 a2 a3 a4 a5 a6 st gr hi gh rc tx tl rk tb tk at_ ltr on_ tw th nu) rfl rfl hP hK hD hN hS hA rfl hl rfl (Nat.le_of_ble_eq_true rfl) dX8_hold_28 ⟨Nat.zero_le _, Nat.zero_le _⟩ (fun H locs hP hD hS => ?_)
      refine lv_if_ne (tgt := 37) hx hb dX8_hold_31 (by decide) (fun c_9 => ?_) (fun c_9 => ?_)
      · have hf := x_f c_9 hf
        refine lv_aload_n hx hb dX8_hold_37 rfl (lv_at hl 1 rfl) ?_
        refine lv_iload hx hb dX8_hold_38 (lv_at hl 0 rfl) ?_
        obtain ⟨r_10, h_11, hf⟩ := bd1_el hf
        refine x_callVi (As := [.int r_1]) (rest := []) ⟨hx, hb, hml, hown, hts⟩ (mX8_free l D cy a0 a1 a2 a3 a4 a5 a6 st gr hi gh rc tx tl rk tb tk at_ ltr on_ tw th nu r_1 r_10 h_11) (cwV 1 hts (gcV_X8_free hbg wm_15_8) rfl rfl rfl kdX8_free ⟨Nat.le_of_ble_eq_true rfl, Nat.le_of_ble_eq_true rfl⟩) (w1 := []) (w2 := []) (w' := wX8 cy a0 a1 a2 a3 a4 a5 a6 st gr hi gh rc tx tl rk tb tk at_ ltr on_ tw th nu) (List.append_nil _) (List.append_nil _) hP hK hD hN hS hA (q0 := 0) rfl rfl rfl rfl hl rfl (Nat.le_of_ble_eq_true rfl) dX8_hold_40 ⟨Nat.zero_le _, Nat.zero_le _⟩ (fun H locs hP hD hS => ?_)
        refine lv_iload_n hx hb dX8_hold_43 rfl (lv_at hl 3 rfl) ?_
        refine lv_icmp_ge (tgt := 50) hx hb dX8_hold_44 (by decide) (fun c_12 => ?_) (fun c_12 => ?_)
        · have hf := x_t c_12 hf
          refine lv_aload_n hx hb dX8_hold_50 rfl (lv_at hl 1 rfl) ?_
          refine x_get hx hb (C := RX8) (T := TX8) (N := 16) (ci := 8) hts iX8 hown hK hP 0 rfl rfl 0 (by decide) wd0 rfl (.ref a1) rfl dX8_hold_51 ?_
          refine lv_bipush (v := 6) hx hb dX8_hold_54 (by decide) ?_
          obtain ⟨hi_13, hf⟩ := ckI_el hf
          refine va_iald hx hb hK hP 1 1 rfl rfl hi_13 dX8_hold_56 ?_
          refine lv_bipush (v := 15) hx hb dX8_hold_57 (by decide) ?_
          refine lv_icmp_ne (tgt := 65) hx hb dX8_hold_59 (by decide) (fun c_14 => ?_) (fun c_14 => ?_)
          · have hf := x_f c_14 hf
            refine lv_aload_n hx hb dX8_hold_65 rfl (lv_at hl 1 rfl) ?_
            obtain ⟨hi_15, gh_16, rc_17, h_18, hf⟩ := bd3_el hf
            refine x_callVv (As := []) (rest := []) ⟨hx, hb, hml, hown, hts⟩ (mX8_record l D cy a0 a1 a2 a3 a4 a5 a6 st gr hi gh rc tx tl rk tb tk at_ ltr on_ tw th nu  hi_15 gh_16 rc_17 h_18) (cwV 0 hts (gcV_X8_record hbg wm_7_3) rfl rfl rfl kdX8_record ⟨Nat.le_of_ble_eq_true rfl, Nat.le_of_ble_eq_true rfl⟩) (w1 := []) (w2 := []) (w' := wX8 cy a0 a1 a2 a3 a4 a5 a6 st gr hi_15 gh_16 rc_17 tx tl rk tb tk at_ ltr on_ tw th nu) (List.append_nil _) (List.append_nil _) hP hK hD hN hS hA (q0 := 0) rfl rfl rfl rfl hl rfl (Nat.le_of_ble_eq_true rfl) dX8_hold_66 ⟨Nat.zero_le _, Nat.zero_le _⟩ (fun H locs hP hD hS => ?_)
            refine lv_bipush (v := 48) hx hb dX8_hold_69 (by decide) ?_
            refine lv_iconst (v := 4) hx hb dX8_hold_71 (by decide) ?_
            refine lv_aload_n hx hb dX8_hold_72 rfl (lv_at hl 1 rfl) ?_
            refine x_get hx hb (C := RX8) (T := TX8) (N := 16) (ci := 8) hts iX8 hown hK hP 0 rfl rfl 0 (by decide) wd0 rfl (.ref a1) rfl dX8_hold_73 ?_
            refine lv_bipush (v := 6) hx hb dX8_hold_76 (by decide) ?_
            obtain ⟨hi_19, hf⟩ := ckI_el hf
            refine va_iald hx hb hK hP 1 1 rfl rfl hi_19 dX8_hold_78 ?_
            refine lv_imul hx hb dX8_hold_79 ?_
            refine lv_iadd hx hb dX8_hold_80 ?_
            obtain ⟨x5_20, ex5_20, hf⟩ := lt_el hf
            refine x_topi ex5_20 ?_
            refine lv_istore (lv' := [(5, .int x5_20), (4, .int r_1), (0, .ref a0), (1, .int p1), (2, .int p2), (3, .int p3)]) hx hb dX8_hold_81 hl (by decide) rfl (fun ls hl => ?_)
            refine lv_aload_n hx hb dX8_hold_83 rfl (lv_at hl 2 rfl) ?_
            refine x_get hx hb (C := RX8) (T := TX8) (N := 16) (ci := 8) hts iX8 hown hK hP 0 rfl rfl 0 (by decide) wd0 rfl (.ref a1) rfl dX8_hold_84 ?_
            refine lv_bipush (v := 6) hx hb dX8_hold_87 (by decide) ?_
            refine lv_dup2_11 hx hb dX8_hold_89 rfl rfl ?_
            obtain ⟨hi_21, hf⟩ := ckI_el hf
            refine va_iald hx hb hK hP 1 1 rfl rfl hi_21 dX8_hold_90 ?_
            refine lv_iconst (v := 1) hx hb dX8_hold_91 (by decide) ?_
            refine lv_iadd hx hb dX8_hold_92 ?_
            obtain ⟨hi_22, hf⟩ := ckI_el hf
            obtain ⟨st_23, est_23, hf⟩ := lt_el hf
            refine x_iast hx hb hK hP hD hS 1 rfl hi_22 est_23 (w' := wX8 cy a0 a1 a2 a3 a4 a5 a6 st_23 gr hi_15 gh_16 rc_17 tx tl rk tb tk at_ ltr on_ tw th nu) rfl dX8_hold_93 (fun H locs hP hD hS => ?_)
            refine lv_aload_n hx hb dX8_hold_94 rfl (lv_at hl 2 rfl) ?_
            refine x_get hx hb (C := RX8) (T := TX8) (N := 16) (ci := 8) hts iX8 hown hK hP 0 rfl rfl 0 (by decide) wd0 rfl (.ref a1) rfl dX8_hold_95 ?_
            refine lv_bipush (v := 8) hx hb dX8_hold_98 (by decide) ?_
            refine lv_dup2_11 hx hb dX8_hold_100 rfl rfl ?_
            obtain ⟨hi_24, hf⟩ := ckI_el hf
            refine va_iald hx hb hK hP 1 1 rfl rfl hi_24 dX8_hold_101 ?_
            refine lv_iconst (v := 1) hx hb dX8_hold_102 (by decide) ?_
            refine lv_iadd hx hb dX8_hold_103 ?_
            obtain ⟨hi_25, hf⟩ := ckI_el hf
            obtain ⟨st_26, est_26, hf⟩ := lt_el hf
            refine x_iast hx hb hK hP hD hS 1 rfl hi_25 est_26 (w' := wX8 cy a0 a1 a2 a3 a4 a5 a6 st_26 gr hi_15 gh_16 rc_17 tx tl rk tb tk at_ ltr on_ tw th nu) rfl dX8_hold_104 (fun H locs hP hD hS => ?_)
            refine lv_aload_n hx hb dX8_hold_105 rfl (lv_at hl 2 rfl) ?_
            refine x_get hx hb (C := RX8) (T := TX8) (N := 16) (ci := 8) hts iX8 hown hK hP 0 rfl rfl 0 (by decide) wd0 rfl (.ref a1) rfl dX8_hold_106 ?_
            refine lv_iload hx hb dX8_hold_109 (lv_at hl 0 rfl) ?_
            refine lv_iconst (v := 0) hx hb dX8_hold_111 (by decide) ?_
            refine lv_iadd hx hb dX8_hold_112 ?_
            refine lv_aload_n hx hb dX8_hold_113 rfl (lv_at hl 2 rfl) ?_
            refine x_get hx hb (C := RX8) (T := TX8) (N := 16) (ci := 8) hts iX8 hown hK hP 0 rfl rfl 0 (by decide) wd0 rfl (.ref a1) rfl dX8_hold_114 ?_
            refine lv_bipush (v := 8) hx hb dX8_hold_117 (by decide) ?_
            obtain ⟨hi_27, hf⟩ := ckI_el hf
            refine va_iald hx hb hK hP 1 1 rfl rfl hi_27 dX8_hold_119 ?_
            obtain ⟨hi_28, hf⟩ := ckI_el hf
            obtain ⟨st_29, est_29, hf⟩ := lt_el hf
            refine x_iast hx hb hK hP hD hS 1 rfl hi_28 est_29 (w' := wX8 cy a0 a1 a2 a3 a4 a5 a6 st_29 gr hi_15 gh_16 rc_17 tx tl rk tb tk at_ ltr on_ tw th nu) rfl dX8_hold_120 (fun H locs hP hD hS => ?_)
            refine lv_aload_n hx hb dX8_hold_121 rfl (lv_at hl 2 rfl) ?_
            refine x_get hx hb (C := RX8) (T := TX8) (N := 16) (ci := 8) hts iX8 hown hK hP 0 rfl rfl 0 (by decide) wd0 rfl (.ref a1) rfl dX8_hold_122 ?_
            refine lv_iload hx hb dX8_hold_125 (lv_at hl 0 rfl) ?_
            refine lv_iconst (v := 1) hx hb dX8_hold_127 (by decide) ?_
            refine lv_iadd hx hb dX8_hold_128 ?_
            refine lv_iload_n hx hb dX8_hold_129 rfl (lv_at hl 3 rfl) ?_
            obtain ⟨hi_30, hf⟩ := ckI_el hf
            obtain ⟨st_31, est_31, hf⟩ := lt_el hf
            refine x_iast hx hb hK hP hD hS 1 rfl hi_30 est_31 (w' := wX8 cy a0 a1 a2 a3 a4 a5 a6 st_31 gr hi_15 gh_16 rc_17 tx tl rk tb tk at_ ltr on_ tw th nu) rfl dX8_hold_130 (fun H locs hP hD hS => ?_)
            refine lv_aload_n hx hb dX8_hold_131 rfl (lv_at hl 2 rfl) ?_
            refine x_get hx hb (C := RX8) (T := TX8) (N := 16) (ci := 8) hts iX8 hown hK hP 0 rfl rfl 0 (by decide) wd0 rfl (.ref a1) rfl dX8_hold_132 ?_
            refine lv_iload hx hb dX8_hold_135 (lv_at hl 0 rfl) ?_
            refine lv_iconst (v := 2) hx hb dX8_hold_137 (by decide) ?_
            refine lv_iadd hx hb dX8_hold_138 ?_
            refine lv_iload_n hx hb dX8_hold_139 rfl (lv_at hl 4 rfl) ?_
            obtain ⟨hi_32, hf⟩ := ckI_el hf
            obtain ⟨st_33, est_33, hf⟩ := lt_el hf
            refine x_iast hx hb hK hP hD hS 1 rfl hi_32 est_33 (w' := wX8 cy a0 a1 a2 a3 a4 a5 a6 st_33 gr hi_15 gh_16 rc_17 tx tl rk tb tk at_ ltr on_ tw th nu) rfl dX8_hold_140 (fun H locs hP hD hS => ?_)
            refine lv_aload_n hx hb dX8_hold_141 rfl (lv_at hl 2 rfl) ?_
            refine x_get hx hb (C := RX8) (T := TX8) (N := 16) (ci := 8) hts iX8 hown hK hP 0 rfl rfl 0 (by decide) wd0 rfl (.ref a1) rfl dX8_hold_142 ?_
            refine lv_iload hx hb dX8_hold_145 (lv_at hl 0 rfl) ?_
            refine lv_iconst (v := 3) hx hb dX8_hold_147 (by decide) ?_
            refine lv_iadd hx hb dX8_hold_148 ?_
            refine lv_aload_n hx hb dX8_hold_149 rfl (lv_at hl 2 rfl) ?_
            refine x_get hx hb (C := RX8) (T := TX8) (N := 16) (ci := 8) hts iX8 hown hK hP 0 rfl rfl 0 (by decide) wd0 rfl (.ref a1) rfl dX8_hold_150 ?_
            refine lv_iconst (v := 0) hx hb dX8_hold_153 (by decide) ?_
            obtain ⟨hi_34, hf⟩ := ckI_el hf
            refine va_iald hx hb hK hP 1 1 rfl rfl hi_34 dX8_hold_154 ?_
            refine lv_iload_n hx hb dX8_hold_155 rfl (lv_at hl 5 rfl) ?_
            refine lv_iadd hx hb dX8_hold_156 ?_
            obtain ⟨hi_35, hf⟩ := ckI_el hf
            obtain ⟨st_36, est_36, hf⟩ := lt_el hf
            refine x_iast hx hb hK hP hD hS 1 rfl hi_35 est_36 (w' := wX8 cy a0 a1 a2 a3 a4 a5 a6 st_36 gr hi_15 gh_16 rc_17 tx tl rk tb tk at_ ltr on_ tw th nu) rfl dX8_hold_157 (fun H locs hP hD hS => ?_)
            refine lv_aload_n hx hb dX8_hold_158 rfl (lv_at hl 2 rfl) ?_
            refine x_get hx hb (C := RX8) (T := TX8) (N := 16) (ci := 8) hts iX8 hown hK hP 0 rfl rfl 0 (by decide) wd0 rfl (.ref a1) rfl dX8_hold_159 ?_
            refine lv_bipush (v := 8) hx hb dX8_hold_162 (by decide) ?_
            obtain ⟨hi_37, hf⟩ := ckI_el hf
            refine va_iald hx hb hK hP 1 1 rfl rfl hi_37 dX8_hold_164 ?_
            have hf := Option.some.inj hf
            cases hf
            exact x_iret hx hb hr hlocks hK hP hD hS dX8_hold_165
          · have hf := x_t c_14 hf
            refine lv_bipush (v := (-4)) hx hb dX8_hold_62 (by decide) ?_
            have hf := Option.some.inj hf
            cases hf
            exact x_iret hx hb hr hlocks hK hP hD hS dX8_hold_64
        · have hf := x_f c_12 hf
          refine lv_bipush (v := (-3)) hx hb dX8_hold_47 (by decide) ?_
          have hf := Option.some.inj hf
          cases hf
          exact x_iret hx hb hr hlocks hK hP hD hS dX8_hold_49
      · have hf := x_t c_9 hf
        refine lv_bipush (v := (-2)) hx hb dX8_hold_34 (by decide) ?_
        have hf := Option.some.inj hf
        cases hf
        exact x_iret hx hb hr hlocks hK hP hD hS dX8_hold_36
  · have hf := x_t c_3 hf
    refine lv_iconst (v := (-1)) hx hb dX8_hold_14 (by decide) ?_
    have hf := Option.some.inj hf
    cases hf
    exact x_iret hx hb hr hlocks hK hP hD hS dX8_hold_15
theorem kdX8_endsHold : yX8_endsHold.cls = RX8 ∧ yX8_endsHold.cls ≠ "java/lang/invoke/MethodHandle" ∧ yX8_endsHold.cls ≠ "java/lang/invoke/VarHandle" ∧ (parseMethodDescriptor yX8_endsHold.desc).map (fun d => d.parameters.length) = some 1 := by decide +kernel
def rmX8_endsHold : Room := { frames := 1, cells := 0, slots := 0, locals := 24 }
set_option maxHeartbeats 4000000 in
set_option maxRecDepth 100000 in
theorem mX8_endsHold (l : Launch) (D : va_G) (cy : Nat → ClassId) (a0 a1 a2 a3 a4 a5 a6 : Nat) (st : Nat → Int32) (gr : Nat → Int64) (hi : Nat → Int32) (gh : Nat → Int64) (rc : Int32) (tx : Nat → Int32) (tl : Int32) (rk : Nat → Int32) (tb : Int32) (tk : Int64) (at_ : Int32) (ltr : Int32) (on_ : Int32) (tw : Int32) (th : Int32) (nu : Int32) (p1 : Int32) (st' : Nat → Int32) (hf : fX8_endsHold st p1 = some st') : xMv l D cy yX8_endsHold aX8_endsHold rmX8_endsHold ([.ref a0, .int p1] : List Value) (wX8 cy a0 a1 a2 a3 a4 a5 a6 st gr hi gh rc tx tl rk tb tk at_ ltr on_ tw th nu) (wX8 cy a0 a1 a2 a3 a4 a5 a6 st' gr hi gh rc tx tl rk tb tk at_ ltr on_ tw th nu) := by
  intro hz
  refine x_start (Qc := xQv D cy _) (cc := cX8_endsHold) (maxL := 2) (ret := none) (by decide) rfl (Nat.le_of_ble_eq_true rfl) (lv := [(0, .ref a0), (1, .int p1)]) rfl ?_
  intro p e s m below meth c ls A hx hb hr hml hown hts hlocks hK hP hD hS hA hN hl
  have hown : s.vm.findClass RX8 = some m.cls := hown
  have hbg : ∀ w ∈ wsL_law, w ∈ aX8_endsHold := fun w h => List.mem_cons_of_mem _ h
  have wd0 : (Cond.fieldLink RX8 7 "ClientMoneyBookModel" "state" "[I").before ([.ref a0, .int p1] : List Value).toArray s = true := hts _ (List.mem_cons_of_mem _ wm_4_9)
  have iX8 : ∀ w ∈ u_ws RX8 TX8 16, w ∈ aX8_endsHold := fun w h => List.mem_cons_of_mem _ (inlX8 w h)
  unfold fX8_endsHold at hf
  refine lv_aload_n hx hb dX8_endsHold_0 rfl (lv_at hl 0 rfl) ?_
  refine lv_bipush (v := 48) hx hb dX8_endsHold_1 (by decide) ?_
  refine lv_iload_n hx hb dX8_endsHold_3 rfl (lv_at hl 1 rfl) ?_
  refine lv_aload_n hx hb dX8_endsHold_4 rfl (lv_at hl 0 rfl) ?_
  refine x_get hx hb (C := RX8) (T := TX8) (N := 16) (ci := 8) hts iX8 hown hK hP 0 rfl rfl 0 (by decide) wd0 rfl (.ref a1) rfl dX8_endsHold_5 ?_
  refine lv_bipush (v := 6) hx hb dX8_endsHold_8 (by decide) ?_
  obtain ⟨hi_1, hf⟩ := ckI_el hf
  refine va_iald hx hb hK hP 1 1 rfl rfl hi_1 dX8_endsHold_10 ?_
  obtain ⟨st_2, h_3, hf⟩ := bd1_el hf
  refine x_callVv (As := [.int 48, .int p1, .int (st (6 : Int32).toNatClampNeg)]) (rest := []) ⟨hx, hb, hml, hown, hts⟩ (mX8_takesOut l D cy a0 a1 a2 a3 a4 a5 a6 st gr hi gh rc tx tl rk tb tk at_ ltr on_ tw th nu 48 p1 (st (6 : Int32).toNatClampNeg) st_2 h_3) (cwV 3 hts (gcV_X8_takesOut hbg wm_19_2) rfl rfl rfl kdX8_takesOut ⟨Nat.le_of_ble_eq_true rfl, Nat.le_of_ble_eq_true rfl⟩) (w1 := []) (w2 := []) (w' := wX8 cy a0 a1 a2 a3 a4 a5 a6 st_2 gr hi gh rc tx tl rk tb tk at_ ltr on_ tw th nu) (List.append_nil _) (List.append_nil _) hP hK hD hN hS hA (q0 := 0) rfl rfl rfl rfl hl rfl (Nat.le_of_ble_eq_true rfl) dX8_endsHold_11 ⟨Nat.zero_le _, Nat.zero_le _⟩ (fun H locs hP hD hS => ?_)
  refine lv_aload_n hx hb dX8_endsHold_14 rfl (lv_at hl 0 rfl) ?_
  refine x_get hx hb (C := RX8) (T := TX8) (N := 16) (ci := 8) hts iX8 hown hK hP 0 rfl rfl 0 (by decide) wd0 rfl (.ref a1) rfl dX8_endsHold_15 ?_
  refine lv_bipush (v := 6) hx hb dX8_endsHold_18 (by decide) ?_
  refine lv_dup2_11 hx hb dX8_endsHold_20 rfl rfl ?_
  obtain ⟨hi_4, hf⟩ := ckI_el hf
  refine va_iald hx hb hK hP 1 1 rfl rfl hi_4 dX8_endsHold_21 ?_
  refine lv_iconst (v := 1) hx hb dX8_endsHold_22 (by decide) ?_
  refine lv_isub hx hb dX8_endsHold_23 ?_
  obtain ⟨hi_5, hf⟩ := ckI_el hf
  obtain ⟨st_6, est_6, hf⟩ := lt_el hf
  refine x_iast hx hb hK hP hD hS 1 rfl hi_5 est_6 (w' := wX8 cy a0 a1 a2 a3 a4 a5 a6 st_6 gr hi gh rc tx tl rk tb tk at_ ltr on_ tw th nu) rfl dX8_endsHold_24 (fun H locs hP hD hS => ?_)
  have hf := Option.some.inj hf
  cases hf
  exact x_vret hx hb hr hlocks hK hP hD hS dX8_endsHold_25
theorem kdX8_release : yX8_release.cls = RX8 ∧ yX8_release.cls ≠ "java/lang/invoke/MethodHandle" ∧ yX8_release.cls ≠ "java/lang/invoke/VarHandle" ∧ (parseMethodDescriptor yX8_release.desc).map (fun d => d.parameters.length) = some 1 := by decide +kernel
def rmX8_release : Room := { frames := 4, cells := 0, slots := 0, locals := 88 }
set_option maxHeartbeats 4000000 in
set_option maxRecDepth 100000 in
theorem mX8_release (l : Launch) (D : va_G) (cy : Nat → ClassId) (a0 a1 a2 a3 a4 a5 a6 : Nat) (st : Nat → Int32) (gr : Nat → Int64) (hi : Nat → Int32) (gh : Nat → Int64) (rc : Int32) (tx : Nat → Int32) (tl : Int32) (rk : Nat → Int32) (tb : Int32) (tk : Int64) (at_ : Int32) (ltr : Int32) (on_ : Int32) (tw : Int32) (th : Int32) (nu : Int32) (p1 : Int32) (r : Int32) (st' : Nat → Int32) (hi' : Nat → Int32) (gh' : Nat → Int64) (rc' : Int32) (hf : fX8_release st gr hi gh rc p1 = some (r, st', hi', gh', rc')) : xMi l D cy yX8_release aX8_release rmX8_release ([.ref a0, .int p1] : List Value) (wX8 cy a0 a1 a2 a3 a4 a5 a6 st gr hi gh rc tx tl rk tb tk at_ ltr on_ tw th nu) (wX8 cy a0 a1 a2 a3 a4 a5 a6 st' gr hi' gh' rc' tx tl rk tb tk at_ ltr on_ tw th nu) r := by
  intro hz
  refine x_start (Qc := xQi D cy _ r) (cc := cX8_release) (maxL := 4) (ret := (some .int)) (by decide) rfl (Nat.le_of_ble_eq_true rfl) (lv := [(0, .ref a0), (1, .int p1)]) rfl ?_
  intro p e s m below meth c ls A hx hb hr hml hown hts hlocks hK hP hD hS hA hN hl
  have hown : s.vm.findClass RX8 = some m.cls := hown
  have hbg : ∀ w ∈ wsL_law, w ∈ aX8_release := fun w h => List.mem_cons_of_mem _ h
  unfold fX8_release at hf
  refine lv_aload_n hx hb dX8_release_0 rfl (lv_at hl 0 rfl) ?_
  refine lv_iload_n hx hb dX8_release_1 rfl (lv_at hl 1 rfl) ?_
  obtain ⟨r_1, h_2, hf⟩ := bd1_el hf
  refine x_callVi (As := [.int p1]) (rest := []) ⟨hx, hb, hml, hown, hts⟩ (mX8_findHold l D cy a0 a1 a2 a3 a4 a5 a6 st gr hi gh rc tx tl rk tb tk at_ ltr on_ tw th nu p1 r_1 h_2) (cwV 1 hts (gcV_X8_findHold hbg wm_18_18) rfl rfl rfl kdX8_findHold ⟨Nat.le_of_ble_eq_true rfl, Nat.le_of_ble_eq_true rfl⟩) (w1 := []) (w2 := []) (w' := wX8 cy a0 a1 a2 a3 a4 a5 a6 st gr hi gh rc tx tl rk tb tk at_ ltr on_ tw th nu) (List.append_nil _) (List.append_nil _) hP hK hD hN hS hA (q0 := 0) rfl rfl rfl rfl hl rfl (Nat.le_of_ble_eq_true rfl) dX8_release_2 ⟨Nat.zero_le _, Nat.zero_le _⟩ (fun H locs hP hD hS => ?_)
  refine lv_istore_n (lv' := [(2, .int r_1), (0, .ref a0), (1, .int p1)]) hx hb dX8_release_5 rfl hl (by decide) rfl (fun ls hl => ?_)
  refine lv_iload_n hx hb dX8_release_6 rfl (lv_at hl 0 rfl) ?_
  refine lv_bipush (v := (-6)) hx hb dX8_release_7 (by decide) ?_
  refine lv_icmp_ne (tgt := 14) hx hb dX8_release_9 (by decide) (fun c_3 => ?_) (fun c_3 => ?_)
  · have hf := x_f c_3 hf
    refine lv_aload_n hx hb dX8_release_14 rfl (lv_at hl 1 rfl) ?_
    obtain ⟨hi_4, gh_5, rc_6, h_7, hf⟩ := bd3_el hf
    refine x_callVv (As := []) (rest := []) ⟨hx, hb, hml, hown, hts⟩ (mX8_record l D cy a0 a1 a2 a3 a4 a5 a6 st gr hi gh rc tx tl rk tb tk at_ ltr on_ tw th nu  hi_4 gh_5 rc_6 h_7) (cwV 0 hts (gcV_X8_record hbg wm_7_3) rfl rfl rfl kdX8_record ⟨Nat.le_of_ble_eq_true rfl, Nat.le_of_ble_eq_true rfl⟩) (w1 := []) (w2 := []) (w' := wX8 cy a0 a1 a2 a3 a4 a5 a6 st gr hi_4 gh_5 rc_6 tx tl rk tb tk at_ ltr on_ tw th nu) (List.append_nil _) (List.append_nil _) hP hK hD hN hS hA (q0 := 0) rfl rfl rfl rfl hl rfl (Nat.le_of_ble_eq_true rfl) dX8_release_15 ⟨Nat.zero_le _, Nat.zero_le _⟩ (fun H locs hP hD hS => ?_)
    refine lv_aload_n hx hb dX8_release_18 rfl (lv_at hl 1 rfl) ?_
    refine lv_iload_n hx hb dX8_release_19 rfl (lv_at hl 0 rfl) ?_
    refine lv_iconst (v := 1) hx hb dX8_release_20 (by decide) ?_
    obtain ⟨r_8, h_9, hf⟩ := bd1_el hf
    refine x_callVi (As := [.int r_1, .int 1]) (rest := []) ⟨hx, hb, hml, hown, hts⟩ (mX8_holdPart l D cy a0 a1 a2 a3 a4 a5 a6 st gr hi_4 gh_5 rc_6 tx tl rk tb tk at_ ltr on_ tw th nu r_1 1 r_8 h_9) (cwV 2 hts (gcV_X8_holdPart hbg wm_15_20) rfl rfl rfl kdX8_holdPart ⟨Nat.le_of_ble_eq_true rfl, Nat.le_of_ble_eq_true rfl⟩) (w1 := []) (w2 := []) (w' := wX8 cy a0 a1 a2 a3 a4 a5 a6 st gr hi_4 gh_5 rc_6 tx tl rk tb tk at_ ltr on_ tw th nu) (List.append_nil _) (List.append_nil _) hP hK hD hN hS hA (q0 := 0) rfl rfl rfl rfl hl rfl (Nat.le_of_ble_eq_true rfl) dX8_release_21 ⟨Nat.zero_le _, Nat.zero_le _⟩ (fun H locs hP hD hS => ?_)
    refine lv_istore_n (lv' := [(3, .int r_8), (2, .int r_1), (0, .ref a0), (1, .int p1)]) hx hb dX8_release_24 rfl hl (by decide) rfl (fun ls hl => ?_)
    refine lv_aload_n hx hb dX8_release_25 rfl (lv_at hl 2 rfl) ?_
    refine lv_iload_n hx hb dX8_release_26 rfl (lv_at hl 1 rfl) ?_
    obtain ⟨st_10, h_11, hf⟩ := bd1_el hf
    refine x_callVv (As := [.int r_1]) (rest := []) ⟨hx, hb, hml, hown, hts⟩ (mX8_endsHold l D cy a0 a1 a2 a3 a4 a5 a6 st gr hi_4 gh_5 rc_6 tx tl rk tb tk at_ ltr on_ tw th nu r_1 st_10 h_11) (cwV 1 hts (gcV_X8_endsHold hbg wm_18_22) rfl rfl rfl kdX8_endsHold ⟨Nat.le_of_ble_eq_true rfl, Nat.le_of_ble_eq_true rfl⟩) (w1 := []) (w2 := []) (w' := wX8 cy a0 a1 a2 a3 a4 a5 a6 st_10 gr hi_4 gh_5 rc_6 tx tl rk tb tk at_ ltr on_ tw th nu) (List.append_nil _) (List.append_nil _) hP hK hD hN hS hA (q0 := 0) rfl rfl rfl rfl hl rfl (Nat.le_of_ble_eq_true rfl) dX8_release_27 ⟨Nat.zero_le _, Nat.zero_le _⟩ (fun H locs hP hD hS => ?_)
    refine lv_aload_n hx hb dX8_release_30 rfl (lv_at hl 2 rfl) ?_
    refine lv_aload_n hx hb dX8_release_31 rfl (lv_at hl 2 rfl) ?_
    refine lv_iload_n hx hb dX8_release_32 rfl (lv_at hl 0 rfl) ?_
    obtain ⟨r_12, h_13, hf⟩ := bd1_el hf
    refine x_callVi (As := [.int r_8]) (rest := [.ref a0]) ⟨hx, hb, hml, hown, hts⟩ (mX8_find l D cy a0 a1 a2 a3 a4 a5 a6 st_10 gr hi_4 gh_5 rc_6 tx tl rk tb tk at_ ltr on_ tw th nu r_8 r_12 h_13) (cwV 1 hts (gcV_X8_find hbg wm_9_5) rfl rfl rfl kdX8_find ⟨Nat.le_of_ble_eq_true rfl, Nat.le_of_ble_eq_true rfl⟩) (w1 := []) (w2 := []) (w' := wX8 cy a0 a1 a2 a3 a4 a5 a6 st_10 gr hi_4 gh_5 rc_6 tx tl rk tb tk at_ ltr on_ tw th nu) (List.append_nil _) (List.append_nil _) hP hK hD hN hS hA (q0 := 0) rfl rfl rfl rfl hl rfl (Nat.le_of_ble_eq_true rfl) dX8_release_33 ⟨Nat.zero_le _, Nat.zero_le _⟩ (fun H locs hP hD hS => ?_)
    obtain ⟨r_14, h_15, hf⟩ := bd1_el hf
    refine x_callVi (As := [.int r_12]) (rest := []) ⟨hx, hb, hml, hown, hts⟩ (mX8_free l D cy a0 a1 a2 a3 a4 a5 a6 st_10 gr hi_4 gh_5 rc_6 tx tl rk tb tk at_ ltr on_ tw th nu r_12 r_14 h_15) (cwV 1 hts (gcV_X8_free hbg wm_15_8) rfl rfl rfl kdX8_free ⟨Nat.le_of_ble_eq_true rfl, Nat.le_of_ble_eq_true rfl⟩) (w1 := []) (w2 := []) (w' := wX8 cy a0 a1 a2 a3 a4 a5 a6 st_10 gr hi_4 gh_5 rc_6 tx tl rk tb tk at_ ltr on_ tw th nu) (List.append_nil _) (List.append_nil _) hP hK hD hN hS hA (q0 := 0) rfl rfl rfl rfl hl rfl (Nat.le_of_ble_eq_true rfl) dX8_release_36 ⟨Nat.zero_le _, Nat.zero_le _⟩ (fun H locs hP hD hS => ?_)
    have hf := Option.some.inj hf
    cases hf
    exact x_iret hx hb hr hlocks hK hP hD hS dX8_release_39
  · have hf := x_t c_3 hf
    refine lv_iconst (v := (-1)) hx hb dX8_release_12 (by decide) ?_
    have hf := Option.some.inj hf
    cases hf
    exact x_iret hx hb hr hlocks hK hP hD hS dX8_release_13
theorem kdX8_whyNotBilled : yX8_whyNotBilled.cls = RX8 ∧ yX8_whyNotBilled.cls ≠ "java/lang/invoke/MethodHandle" ∧ yX8_whyNotBilled.cls ≠ "java/lang/invoke/VarHandle" ∧ (parseMethodDescriptor yX8_whyNotBilled.desc).map (fun d => d.parameters.length) = some 2 := by decide +kernel
def rmX8_whyNotBilled : Room := { frames := 2, cells := 0, slots := 0, locals := 45 }
set_option maxHeartbeats 4000000 in
set_option maxRecDepth 100000 in
theorem mX8_whyNotBilled (l : Launch) (D : va_G) (cy : Nat → ClassId) (a0 a1 a2 a3 a4 a5 a6 : Nat) (st : Nat → Int32) (gr : Nat → Int64) (hi : Nat → Int32) (gh : Nat → Int64) (rc : Int32) (tx : Nat → Int32) (tl : Int32) (rk : Nat → Int32) (tb : Int32) (tk : Int64) (at_ : Int32) (ltr : Int32) (on_ : Int32) (tw : Int32) (th : Int32) (nu : Int32) (p1 : Int32) (p2 : Int32) (r : Int32) (hf : fX8_whyNotBilled st p1 p2 = some r) : xMi l D cy yX8_whyNotBilled aX8_whyNotBilled rmX8_whyNotBilled ([.ref a0, .int p1, .int p2] : List Value) (wX8 cy a0 a1 a2 a3 a4 a5 a6 st gr hi gh rc tx tl rk tb tk at_ ltr on_ tw th nu) (wX8 cy a0 a1 a2 a3 a4 a5 a6 st gr hi gh rc tx tl rk tb tk at_ ltr on_ tw th nu) r := by
  intro hz
  refine x_start (Qc := xQi D cy _ r) (cc := cX8_whyNotBilled) (maxL := 3) (ret := (some .int)) (by decide) rfl (Nat.le_of_ble_eq_true rfl) (lv := [(0, .ref a0), (1, .int p1), (2, .int p2)]) rfl ?_
  intro p e s m below meth c ls A hx hb hr hml hown hts hlocks hK hP hD hS hA hN hl
  have hown : s.vm.findClass RX8 = some m.cls := hown
  have hbg : ∀ w ∈ wsL_law, w ∈ aX8_whyNotBilled := fun w h => List.mem_cons_of_mem _ h
  have wd0 : (Cond.fieldLink RX8 7 "ClientMoneyBookModel" "state" "[I").before ([.ref a0, .int p1, .int p2] : List Value).toArray s = true := hts _ (List.mem_cons_of_mem _ wm_4_9)
  have iX8 : ∀ w ∈ u_ws RX8 TX8 16, w ∈ aX8_whyNotBilled := fun w h => List.mem_cons_of_mem _ (inlX8 w h)
  unfold fX8_whyNotBilled at hf
  refine lv_aload_n hx hb dX8_whyNotBilled_0 rfl (lv_at hl 0 rfl) ?_
  refine lv_iload_n hx hb dX8_whyNotBilled_1 rfl (lv_at hl 1 rfl) ?_
  obtain ⟨r_1, h_2, hf⟩ := bd1_el hf
  refine x_callVi (As := [.int p1]) (rest := []) ⟨hx, hb, hml, hown, hts⟩ (mX8_find l D cy a0 a1 a2 a3 a4 a5 a6 st gr hi gh rc tx tl rk tb tk at_ ltr on_ tw th nu p1 r_1 h_2) (cwV 1 hts (gcV_X8_find hbg wm_9_5) rfl rfl rfl kdX8_find ⟨Nat.le_of_ble_eq_true rfl, Nat.le_of_ble_eq_true rfl⟩) (w1 := []) (w2 := []) (w' := wX8 cy a0 a1 a2 a3 a4 a5 a6 st gr hi gh rc tx tl rk tb tk at_ ltr on_ tw th nu) (List.append_nil _) (List.append_nil _) hP hK hD hN hS hA (q0 := 0) rfl rfl rfl rfl hl rfl (Nat.le_of_ble_eq_true rfl) dX8_whyNotBilled_2 ⟨Nat.zero_le _, Nat.zero_le _⟩ (fun H locs hP hD hS => ?_)
  refine lv_bipush (v := (-6)) hx hb dX8_whyNotBilled_5 (by decide) ?_
  refine lv_icmp_ne (tgt := 14) hx hb dX8_whyNotBilled_7 (by decide) (fun c_3 => ?_) (fun c_3 => ?_)
  · have hf := x_f c_3 hf
    refine lv_iload_n hx hb dX8_whyNotBilled_14 rfl (lv_at hl 2 rfl) ?_
    obtain ⟨r_4, h_5, hf⟩ := bd1_el hf
    refine x_callSi (As := [.int p2]) (rest := []) ⟨hx, hb, hml, hown, hts⟩ (mX8_isAmount l D cy   p2 r_4 h_5) (va_cwS 1 hts (gcS_X8_isAmount hbg wm_13_5) rfl rfl rfl kdX8_isAmount ⟨Nat.le_of_ble_eq_true rfl, Nat.le_of_ble_eq_true rfl⟩) (w1 := []) (w2 := wX8 cy a0 a1 a2 a3 a4 a5 a6 st gr hi gh rc tx tl rk tb tk at_ ltr on_ tw th nu) (w' := wX8 cy a0 a1 a2 a3 a4 a5 a6 st gr hi gh rc tx tl rk tb tk at_ ltr on_ tw th nu) rfl rfl hP hK hD hN hS hA rfl hl rfl (Nat.le_of_ble_eq_true rfl) dX8_whyNotBilled_15 ⟨Nat.zero_le _, Nat.zero_le _⟩ (fun H locs hP hD hS => ?_)
    refine lv_if_ne (tgt := 26) hx hb dX8_whyNotBilled_18 (by decide) (fun c_6 => ?_) (fun c_6 => ?_)
    · have hf := x_f c_6 hf
      refine lv_aload_n hx hb dX8_whyNotBilled_26 rfl (lv_at hl 0 rfl) ?_
      refine x_get hx hb (C := RX8) (T := TX8) (N := 16) (ci := 8) hts iX8 hown hK hP 0 rfl rfl 0 (by decide) wd0 rfl (.ref a1) rfl dX8_whyNotBilled_27 ?_
      refine lv_bipush (v := 7) hx hb dX8_whyNotBilled_30 (by decide) ?_
      obtain ⟨hi_7, hf⟩ := ckI_el hf
      refine va_iald hx hb hK hP 1 1 rfl rfl hi_7 dX8_whyNotBilled_32 ?_
      refine lv_bipush (v := 15) hx hb dX8_whyNotBilled_33 (by decide) ?_
      refine lv_icmp_ne (tgt := 43) hx hb dX8_whyNotBilled_35 (by decide) (fun c_8 => ?_) (fun c_8 => ?_)
      · have hf := x_f c_8 hf
        refine lv_iconst (v := 0) hx hb dX8_whyNotBilled_43 (by decide) ?_
        have hf := Option.some.inj hf
        cases hf
        exact x_iret hx hb hr hlocks hK hP hD hS dX8_whyNotBilled_44
      · have hf := x_t c_8 hf
        refine lv_bipush (v := (-4)) hx hb dX8_whyNotBilled_38 (by decide) ?_
        refine lv_goto (tgt := 44) hx hb dX8_whyNotBilled_40 (by decide) ?_
        have hf := Option.some.inj hf
        cases hf
        exact x_iret hx hb hr hlocks hK hP hD hS dX8_whyNotBilled_44
    · have hf := x_t c_6 hf
      refine lv_bipush (v := (-2)) hx hb dX8_whyNotBilled_21 (by decide) ?_
      refine lv_goto (tgt := 44) hx hb dX8_whyNotBilled_23 (by decide) ?_
      have hf := Option.some.inj hf
      cases hf
      exact x_iret hx hb hr hlocks hK hP hD hS dX8_whyNotBilled_44
  · have hf := x_t c_3 hf
    refine lv_iconst (v := (-1)) hx hb dX8_whyNotBilled_10 (by decide) ?_
    refine lv_goto (tgt := 44) hx hb dX8_whyNotBilled_11 (by decide) ?_
    have hf := Option.some.inj hf
    cases hf
    exact x_iret hx hb hr hlocks hK hP hD hS dX8_whyNotBilled_44
theorem kdX8_bills : yX8_bills.cls = RX8 ∧ yX8_bills.cls ≠ "java/lang/invoke/MethodHandle" ∧ yX8_bills.cls ≠ "java/lang/invoke/VarHandle" ∧ (parseMethodDescriptor yX8_bills.desc).map (fun d => d.parameters.length) = some 2 := by decide +kernel
def rmX8_bills : Room := { frames := 0, cells := 0, slots := 0, locals := 0 }
set_option maxHeartbeats 4000000 in
set_option maxRecDepth 100000 in
theorem mX8_bills (l : Launch) (D : va_G) (cy : Nat → ClassId) (a0 a1 a2 a3 a4 a5 a6 : Nat) (st : Nat → Int32) (gr : Nat → Int64) (hi : Nat → Int32) (gh : Nat → Int64) (rc : Int32) (tx : Nat → Int32) (tl : Int32) (rk : Nat → Int32) (tb : Int32) (tk : Int64) (at_ : Int32) (ltr : Int32) (on_ : Int32) (tw : Int32) (th : Int32) (nu : Int32) (p1 : Int32) (p2 : Int32) (r : Int32) (st' : Nat → Int32) (hf : fX8_bills st p1 p2 = some (r, st')) : xMi l D cy yX8_bills aX8_bills rmX8_bills ([.ref a0, .int p1, .int p2] : List Value) (wX8 cy a0 a1 a2 a3 a4 a5 a6 st gr hi gh rc tx tl rk tb tk at_ ltr on_ tw th nu) (wX8 cy a0 a1 a2 a3 a4 a5 a6 st' gr hi gh rc tx tl rk tb tk at_ ltr on_ tw th nu) r := by
  intro hz
  refine x_start (Qc := xQi D cy _ r) (cc := cX8_bills) (maxL := 4) (ret := (some .int)) (by decide) rfl (Nat.le_of_ble_eq_true rfl) (lv := [(0, .ref a0), (1, .int p1), (2, .int p2)]) rfl ?_
  intro p e s m below meth c ls A hx hb hr hml hown hts hlocks hK hP hD hS hA hN hl
  have hown : s.vm.findClass RX8 = some m.cls := hown
  have hbg : ∀ w ∈ wsL_law, w ∈ aX8_bills := fun w h => List.mem_cons_of_mem _ h
  have wd0 : (Cond.fieldLink RX8 7 "ClientMoneyBookModel" "state" "[I").before ([.ref a0, .int p1, .int p2] : List Value).toArray s = true := hts _ (List.mem_cons_of_mem _ wm_4_9)
  have iX8 : ∀ w ∈ u_ws RX8 TX8 16, w ∈ aX8_bills := fun w h => List.mem_cons_of_mem _ (inlX8 w h)
  unfold fX8_bills at hf
  refine lv_bipush (v := 108) hx hb dX8_bills_0 (by decide) ?_
  refine lv_iconst (v := 4) hx hb dX8_bills_2 (by decide) ?_
  refine lv_aload_n hx hb dX8_bills_3 rfl (lv_at hl 0 rfl) ?_
  refine x_get hx hb (C := RX8) (T := TX8) (N := 16) (ci := 8) hts iX8 hown hK hP 0 rfl rfl 0 (by decide) wd0 rfl (.ref a1) rfl dX8_bills_4 ?_
  refine lv_bipush (v := 7) hx hb dX8_bills_7 (by decide) ?_
  obtain ⟨hi_1, hf⟩ := ckI_el hf
  refine va_iald hx hb hK hP 1 1 rfl rfl hi_1 dX8_bills_9 ?_
  refine lv_imul hx hb dX8_bills_10 ?_
  refine lv_iadd hx hb dX8_bills_11 ?_
  obtain ⟨x3_2, ex3_2, hf⟩ := lt_el hf
  refine x_topi ex3_2 ?_
  refine lv_istore_n (lv' := [(3, .int x3_2), (0, .ref a0), (1, .int p1), (2, .int p2)]) hx hb dX8_bills_12 rfl hl (by decide) rfl (fun ls hl => ?_)
  refine lv_aload_n hx hb dX8_bills_13 rfl (lv_at hl 1 rfl) ?_
  refine x_get hx hb (C := RX8) (T := TX8) (N := 16) (ci := 8) hts iX8 hown hK hP 0 rfl rfl 0 (by decide) wd0 rfl (.ref a1) rfl dX8_bills_14 ?_
  refine lv_bipush (v := 7) hx hb dX8_bills_17 (by decide) ?_
  refine lv_dup2_11 hx hb dX8_bills_19 rfl rfl ?_
  obtain ⟨hi_3, hf⟩ := ckI_el hf
  refine va_iald hx hb hK hP 1 1 rfl rfl hi_3 dX8_bills_20 ?_
  refine lv_iconst (v := 1) hx hb dX8_bills_21 (by decide) ?_
  refine lv_iadd hx hb dX8_bills_22 ?_
  obtain ⟨hi_4, hf⟩ := ckI_el hf
  obtain ⟨st_5, est_5, hf⟩ := lt_el hf
  refine x_iast hx hb hK hP hD hS 1 rfl hi_4 est_5 (w' := wX8 cy a0 a1 a2 a3 a4 a5 a6 st_5 gr hi gh rc tx tl rk tb tk at_ ltr on_ tw th nu) rfl dX8_bills_23 (fun H locs hP hD hS => ?_)
  refine lv_aload_n hx hb dX8_bills_24 rfl (lv_at hl 1 rfl) ?_
  refine x_get hx hb (C := RX8) (T := TX8) (N := 16) (ci := 8) hts iX8 hown hK hP 0 rfl rfl 0 (by decide) wd0 rfl (.ref a1) rfl dX8_bills_25 ?_
  refine lv_bipush (v := 9) hx hb dX8_bills_28 (by decide) ?_
  refine lv_dup2_11 hx hb dX8_bills_30 rfl rfl ?_
  obtain ⟨hi_6, hf⟩ := ckI_el hf
  refine va_iald hx hb hK hP 1 1 rfl rfl hi_6 dX8_bills_31 ?_
  refine lv_iconst (v := 1) hx hb dX8_bills_32 (by decide) ?_
  refine lv_iadd hx hb dX8_bills_33 ?_
  obtain ⟨hi_7, hf⟩ := ckI_el hf
  obtain ⟨st_8, est_8, hf⟩ := lt_el hf
  refine x_iast hx hb hK hP hD hS 1 rfl hi_7 est_8 (w' := wX8 cy a0 a1 a2 a3 a4 a5 a6 st_8 gr hi gh rc tx tl rk tb tk at_ ltr on_ tw th nu) rfl dX8_bills_34 (fun H locs hP hD hS => ?_)
  refine lv_aload_n hx hb dX8_bills_35 rfl (lv_at hl 1 rfl) ?_
  refine x_get hx hb (C := RX8) (T := TX8) (N := 16) (ci := 8) hts iX8 hown hK hP 0 rfl rfl 0 (by decide) wd0 rfl (.ref a1) rfl dX8_bills_36 ?_
  refine lv_iload_n hx hb dX8_bills_39 rfl (lv_at hl 0 rfl) ?_
  refine lv_iconst (v := 0) hx hb dX8_bills_40 (by decide) ?_
  refine lv_iadd hx hb dX8_bills_41 ?_
  refine lv_aload_n hx hb dX8_bills_42 rfl (lv_at hl 1 rfl) ?_
  refine x_get hx hb (C := RX8) (T := TX8) (N := 16) (ci := 8) hts iX8 hown hK hP 0 rfl rfl 0 (by decide) wd0 rfl (.ref a1) rfl dX8_bills_43 ?_
  refine lv_bipush (v := 9) hx hb dX8_bills_46 (by decide) ?_
  obtain ⟨hi_9, hf⟩ := ckI_el hf
  refine va_iald hx hb hK hP 1 1 rfl rfl hi_9 dX8_bills_48 ?_
  obtain ⟨hi_10, hf⟩ := ckI_el hf
  obtain ⟨st_11, est_11, hf⟩ := lt_el hf
  refine x_iast hx hb hK hP hD hS 1 rfl hi_10 est_11 (w' := wX8 cy a0 a1 a2 a3 a4 a5 a6 st_11 gr hi gh rc tx tl rk tb tk at_ ltr on_ tw th nu) rfl dX8_bills_49 (fun H locs hP hD hS => ?_)
  refine lv_aload_n hx hb dX8_bills_50 rfl (lv_at hl 1 rfl) ?_
  refine x_get hx hb (C := RX8) (T := TX8) (N := 16) (ci := 8) hts iX8 hown hK hP 0 rfl rfl 0 (by decide) wd0 rfl (.ref a1) rfl dX8_bills_51 ?_
  refine lv_iload_n hx hb dX8_bills_54 rfl (lv_at hl 0 rfl) ?_
  refine lv_iconst (v := 1) hx hb dX8_bills_55 (by decide) ?_
  refine lv_iadd hx hb dX8_bills_56 ?_
  refine lv_iload_n hx hb dX8_bills_57 rfl (lv_at hl 2 rfl) ?_
  obtain ⟨hi_12, hf⟩ := ckI_el hf
  obtain ⟨st_13, est_13, hf⟩ := lt_el hf
  refine x_iast hx hb hK hP hD hS 1 rfl hi_12 est_13 (w' := wX8 cy a0 a1 a2 a3 a4 a5 a6 st_13 gr hi gh rc tx tl rk tb tk at_ ltr on_ tw th nu) rfl dX8_bills_58 (fun H locs hP hD hS => ?_)
  refine lv_aload_n hx hb dX8_bills_59 rfl (lv_at hl 1 rfl) ?_
  refine x_get hx hb (C := RX8) (T := TX8) (N := 16) (ci := 8) hts iX8 hown hK hP 0 rfl rfl 0 (by decide) wd0 rfl (.ref a1) rfl dX8_bills_60 ?_
  refine lv_iload_n hx hb dX8_bills_63 rfl (lv_at hl 0 rfl) ?_
  refine lv_iconst (v := 2) hx hb dX8_bills_64 (by decide) ?_
  refine lv_iadd hx hb dX8_bills_65 ?_
  refine lv_iload_n hx hb dX8_bills_66 rfl (lv_at hl 3 rfl) ?_
  obtain ⟨hi_14, hf⟩ := ckI_el hf
  obtain ⟨st_15, est_15, hf⟩ := lt_el hf
  refine x_iast hx hb hK hP hD hS 1 rfl hi_14 est_15 (w' := wX8 cy a0 a1 a2 a3 a4 a5 a6 st_15 gr hi gh rc tx tl rk tb tk at_ ltr on_ tw th nu) rfl dX8_bills_67 (fun H locs hP hD hS => ?_)
  refine lv_aload_n hx hb dX8_bills_68 rfl (lv_at hl 1 rfl) ?_
  refine x_get hx hb (C := RX8) (T := TX8) (N := 16) (ci := 8) hts iX8 hown hK hP 0 rfl rfl 0 (by decide) wd0 rfl (.ref a1) rfl dX8_bills_69 ?_
  refine lv_iload_n hx hb dX8_bills_72 rfl (lv_at hl 0 rfl) ?_
  refine lv_iconst (v := 3) hx hb dX8_bills_73 (by decide) ?_
  refine lv_iadd hx hb dX8_bills_74 ?_
  refine lv_iconst (v := 0) hx hb dX8_bills_75 (by decide) ?_
  obtain ⟨hi_16, hf⟩ := ckI_el hf
  obtain ⟨st_17, est_17, hf⟩ := lt_el hf
  refine x_iast hx hb hK hP hD hS 1 rfl hi_16 est_17 (w' := wX8 cy a0 a1 a2 a3 a4 a5 a6 st_17 gr hi gh rc tx tl rk tb tk at_ ltr on_ tw th nu) rfl dX8_bills_76 (fun H locs hP hD hS => ?_)
  refine lv_aload_n hx hb dX8_bills_77 rfl (lv_at hl 1 rfl) ?_
  refine x_get hx hb (C := RX8) (T := TX8) (N := 16) (ci := 8) hts iX8 hown hK hP 0 rfl rfl 0 (by decide) wd0 rfl (.ref a1) rfl dX8_bills_78 ?_
  refine lv_bipush (v := 9) hx hb dX8_bills_81 (by decide) ?_
  obtain ⟨hi_18, hf⟩ := ckI_el hf
  refine va_iald hx hb hK hP 1 1 rfl rfl hi_18 dX8_bills_83 ?_
  have hf := Option.some.inj hf
  cases hf
  exact x_iret hx hb hr hlocks hK hP hD hS dX8_bills_84
theorem kdX8_bill : yX8_bill.cls = RX8 ∧ yX8_bill.cls ≠ "java/lang/invoke/MethodHandle" ∧ yX8_bill.cls ≠ "java/lang/invoke/VarHandle" ∧ (parseMethodDescriptor yX8_bill.desc).map (fun d => d.parameters.length) = some 2 := by decide +kernel
def rmX8_bill : Room := { frames := 3, cells := 0, slots := 0, locals := 67 }
set_option maxHeartbeats 4000000 in
set_option maxRecDepth 100000 in
theorem mX8_bill (l : Launch) (D : va_G) (cy : Nat → ClassId) (a0 a1 a2 a3 a4 a5 a6 : Nat) (st : Nat → Int32) (gr : Nat → Int64) (hi : Nat → Int32) (gh : Nat → Int64) (rc : Int32) (tx : Nat → Int32) (tl : Int32) (rk : Nat → Int32) (tb : Int32) (tk : Int64) (at_ : Int32) (ltr : Int32) (on_ : Int32) (tw : Int32) (th : Int32) (nu : Int32) (p1 : Int32) (p2 : Int32) (r : Int32) (st' : Nat → Int32) (hi' : Nat → Int32) (gh' : Nat → Int64) (rc' : Int32) (hf : fX8_bill st gr hi gh rc p1 p2 = some (r, st', hi', gh', rc')) : xMi l D cy yX8_bill aX8_bill rmX8_bill ([.ref a0, .int p1, .int p2] : List Value) (wX8 cy a0 a1 a2 a3 a4 a5 a6 st gr hi gh rc tx tl rk tb tk at_ ltr on_ tw th nu) (wX8 cy a0 a1 a2 a3 a4 a5 a6 st' gr hi' gh' rc' tx tl rk tb tk at_ ltr on_ tw th nu) r := by
  intro hz
  refine x_start (Qc := xQi D cy _ r) (cc := cX8_bill) (maxL := 4) (ret := (some .int)) (by decide) rfl (Nat.le_of_ble_eq_true rfl) (lv := [(0, .ref a0), (1, .int p1), (2, .int p2)]) rfl ?_
  intro p e s m below meth c ls A hx hb hr hml hown hts hlocks hK hP hD hS hA hN hl
  have hown : s.vm.findClass RX8 = some m.cls := hown
  have hbg : ∀ w ∈ wsL_law, w ∈ aX8_bill := fun w h => List.mem_cons_of_mem _ h
  unfold fX8_bill at hf
  refine lv_aload_n hx hb dX8_bill_0 rfl (lv_at hl 0 rfl) ?_
  refine lv_iload_n hx hb dX8_bill_1 rfl (lv_at hl 1 rfl) ?_
  refine lv_iload_n hx hb dX8_bill_2 rfl (lv_at hl 2 rfl) ?_
  obtain ⟨r_1, h_2, hf⟩ := bd1_el hf
  refine x_callVi (As := [.int p1, .int p2]) (rest := []) ⟨hx, hb, hml, hown, hts⟩ (mX8_whyNotBilled l D cy a0 a1 a2 a3 a4 a5 a6 st gr hi gh rc tx tl rk tb tk at_ ltr on_ tw th nu p1 p2 r_1 h_2) (cwV 2 hts (gcV_X8_whyNotBilled hbg wm_19_18) rfl rfl rfl kdX8_whyNotBilled ⟨Nat.le_of_ble_eq_true rfl, Nat.le_of_ble_eq_true rfl⟩) (w1 := []) (w2 := []) (w' := wX8 cy a0 a1 a2 a3 a4 a5 a6 st gr hi gh rc tx tl rk tb tk at_ ltr on_ tw th nu) (List.append_nil _) (List.append_nil _) hP hK hD hN hS hA (q0 := 0) rfl rfl rfl rfl hl rfl (Nat.le_of_ble_eq_true rfl) dX8_bill_3 ⟨Nat.zero_le _, Nat.zero_le _⟩ (fun H locs hP hD hS => ?_)
  refine lv_istore_n (lv' := [(3, .int r_1), (0, .ref a0), (1, .int p1), (2, .int p2)]) hx hb dX8_bill_6 rfl hl (by decide) rfl (fun ls hl => ?_)
  refine lv_iload_n hx hb dX8_bill_7 rfl (lv_at hl 0 rfl) ?_
  refine lv_if_ge (tgt := 13) hx hb dX8_bill_8 (by decide) (fun c_3 => ?_) (fun c_3 => ?_)
  · have hf := x_t c_3 hf
    refine lv_aload_n hx hb dX8_bill_13 rfl (lv_at hl 1 rfl) ?_
    obtain ⟨hi_4, gh_5, rc_6, h_7, hf⟩ := bd3_el hf
    refine x_callVv (As := []) (rest := []) ⟨hx, hb, hml, hown, hts⟩ (mX8_record l D cy a0 a1 a2 a3 a4 a5 a6 st gr hi gh rc tx tl rk tb tk at_ ltr on_ tw th nu  hi_4 gh_5 rc_6 h_7) (cwV 0 hts (gcV_X8_record hbg wm_7_3) rfl rfl rfl kdX8_record ⟨Nat.le_of_ble_eq_true rfl, Nat.le_of_ble_eq_true rfl⟩) (w1 := []) (w2 := []) (w' := wX8 cy a0 a1 a2 a3 a4 a5 a6 st gr hi_4 gh_5 rc_6 tx tl rk tb tk at_ ltr on_ tw th nu) (List.append_nil _) (List.append_nil _) hP hK hD hN hS hA (q0 := 0) rfl rfl rfl rfl hl rfl (Nat.le_of_ble_eq_true rfl) dX8_bill_14 ⟨Nat.zero_le _, Nat.zero_le _⟩ (fun H locs hP hD hS => ?_)
    refine lv_aload_n hx hb dX8_bill_17 rfl (lv_at hl 1 rfl) ?_
    refine lv_iload_n hx hb dX8_bill_18 rfl (lv_at hl 2 rfl) ?_
    refine lv_iload_n hx hb dX8_bill_19 rfl (lv_at hl 3 rfl) ?_
    obtain ⟨r_8, st_9, h_10, hf⟩ := bd2_el hf
    refine x_callVi (As := [.int p1, .int p2]) (rest := []) ⟨hx, hb, hml, hown, hts⟩ (mX8_bills l D cy a0 a1 a2 a3 a4 a5 a6 st gr hi_4 gh_5 rc_6 tx tl rk tb tk at_ ltr on_ tw th nu p1 p2 r_8 st_9 h_10) (cwV 2 hts (gcV_X8_bills hbg wm_19_22) rfl rfl rfl kdX8_bills ⟨Nat.le_of_ble_eq_true rfl, Nat.le_of_ble_eq_true rfl⟩) (w1 := []) (w2 := []) (w' := wX8 cy a0 a1 a2 a3 a4 a5 a6 st_9 gr hi_4 gh_5 rc_6 tx tl rk tb tk at_ ltr on_ tw th nu) (List.append_nil _) (List.append_nil _) hP hK hD hN hS hA (q0 := 0) rfl rfl rfl rfl hl rfl (Nat.le_of_ble_eq_true rfl) dX8_bill_20 ⟨Nat.zero_le _, Nat.zero_le _⟩ (fun H locs hP hD hS => ?_)
    have hf := Option.some.inj hf
    cases hf
    exact x_iret hx hb hr hlocks hK hP hD hS dX8_bill_23
  · have hf := x_f c_3 hf
    refine lv_iload_n hx hb dX8_bill_11 rfl (lv_at hl 0 rfl) ?_
    have hf := Option.some.inj hf
    cases hf
    exact x_iret hx hb hr hlocks hK hP hD hS dX8_bill_12
theorem kdX8_whyNotSettled : yX8_whyNotSettled.cls = RX8 ∧ yX8_whyNotSettled.cls ≠ "java/lang/invoke/MethodHandle" ∧ yX8_whyNotSettled.cls ≠ "java/lang/invoke/VarHandle" ∧ (parseMethodDescriptor yX8_whyNotSettled.desc).map (fun d => d.parameters.length) = some 1 := by decide +kernel
def rmX8_whyNotSettled : Room := { frames := 4, cells := 0, slots := 0, locals := 88 }
set_option maxHeartbeats 4000000 in
set_option maxRecDepth 100000 in
theorem mX8_whyNotSettled (l : Launch) (D : va_G) (cy : Nat → ClassId) (a0 a1 a2 a3 a4 a5 a6 : Nat) (st : Nat → Int32) (gr : Nat → Int64) (hi : Nat → Int32) (gh : Nat → Int64) (rc : Int32) (tx : Nat → Int32) (tl : Int32) (rk : Nat → Int32) (tb : Int32) (tk : Int64) (at_ : Int32) (ltr : Int32) (on_ : Int32) (tw : Int32) (th : Int32) (nu : Int32) (p1 : Int32) (r : Int32) (hf : fX8_whyNotSettled st p1 = some r) : xMi l D cy yX8_whyNotSettled aX8_whyNotSettled rmX8_whyNotSettled ([.ref a0, .int p1] : List Value) (wX8 cy a0 a1 a2 a3 a4 a5 a6 st gr hi gh rc tx tl rk tb tk at_ ltr on_ tw th nu) (wX8 cy a0 a1 a2 a3 a4 a5 a6 st gr hi gh rc tx tl rk tb tk at_ ltr on_ tw th nu) r := by
  intro hz
  refine x_start (Qc := xQi D cy _ r) (cc := cX8_whyNotSettled) (maxL := 3) (ret := (some .int)) (by decide) rfl (Nat.le_of_ble_eq_true rfl) (lv := [(0, .ref a0), (1, .int p1)]) rfl ?_
  intro p e s m below meth c ls A hx hb hr hml hown hts hlocks hK hP hD hS hA hN hl
  have hown : s.vm.findClass RX8 = some m.cls := hown
  have hbg : ∀ w ∈ wsL_law, w ∈ aX8_whyNotSettled := fun w h => List.mem_cons_of_mem _ h
  unfold fX8_whyNotSettled at hf
  refine lv_aload_n hx hb dX8_whyNotSettled_0 rfl (lv_at hl 0 rfl) ?_
  refine lv_iload_n hx hb dX8_whyNotSettled_1 rfl (lv_at hl 1 rfl) ?_
  obtain ⟨r_1, h_2, hf⟩ := bd1_el hf
  refine x_callVi (As := [.int p1]) (rest := []) ⟨hx, hb, hml, hown, hts⟩ (mX8_findBill l D cy a0 a1 a2 a3 a4 a5 a6 st gr hi gh rc tx tl rk tb tk at_ ltr on_ tw th nu p1 r_1 h_2) (cwV 1 hts (gcV_X8_findBill hbg wm_20_20) rfl rfl rfl kdX8_findBill ⟨Nat.le_of_ble_eq_true rfl, Nat.le_of_ble_eq_true rfl⟩) (w1 := []) (w2 := []) (w' := wX8 cy a0 a1 a2 a3 a4 a5 a6 st gr hi gh rc tx tl rk tb tk at_ ltr on_ tw th nu) (List.append_nil _) (List.append_nil _) hP hK hD hN hS hA (q0 := 0) rfl rfl rfl rfl hl rfl (Nat.le_of_ble_eq_true rfl) dX8_whyNotSettled_2 ⟨Nat.zero_le _, Nat.zero_le _⟩ (fun H locs hP hD hS => ?_)
  refine lv_istore_n (lv' := [(2, .int r_1), (0, .ref a0), (1, .int p1)]) hx hb dX8_whyNotSettled_5 rfl hl (by decide) rfl (fun ls hl => ?_)
  refine lv_iload_n hx hb dX8_whyNotSettled_6 rfl (lv_at hl 0 rfl) ?_
  refine lv_bipush (v := (-6)) hx hb dX8_whyNotSettled_7 (by decide) ?_
  refine lv_icmp_ne (tgt := 16) hx hb dX8_whyNotSettled_9 (by decide) (fun c_3 => ?_) (fun c_3 => ?_)
  · have hf := x_f c_3 hf
    refine lv_aload_n hx hb dX8_whyNotSettled_16 rfl (lv_at hl 1 rfl) ?_
    refine lv_aload_n hx hb dX8_whyNotSettled_17 rfl (lv_at hl 1 rfl) ?_
    refine lv_aload_n hx hb dX8_whyNotSettled_18 rfl (lv_at hl 1 rfl) ?_
    refine lv_iload_n hx hb dX8_whyNotSettled_19 rfl (lv_at hl 0 rfl) ?_
    refine lv_iconst (v := 1) hx hb dX8_whyNotSettled_20 (by decide) ?_
    obtain ⟨r_4, h_5, hf⟩ := bd1_el hf
    refine x_callVi (As := [.int r_1, .int 1]) (rest := [.ref a0, .ref a0]) ⟨hx, hb, hml, hown, hts⟩ (mX8_billPart l D cy a0 a1 a2 a3 a4 a5 a6 st gr hi gh rc tx tl rk tb tk at_ ltr on_ tw th nu r_1 1 r_4 h_5) (cwV 2 hts (gcV_X8_billPart hbg wm_11_1) rfl rfl rfl kdX8_billPart ⟨Nat.le_of_ble_eq_true rfl, Nat.le_of_ble_eq_true rfl⟩) (w1 := []) (w2 := []) (w' := wX8 cy a0 a1 a2 a3 a4 a5 a6 st gr hi gh rc tx tl rk tb tk at_ ltr on_ tw th nu) (List.append_nil _) (List.append_nil _) hP hK hD hN hS hA (q0 := 0) rfl rfl rfl rfl hl rfl (Nat.le_of_ble_eq_true rfl) dX8_whyNotSettled_21 ⟨Nat.zero_le _, Nat.zero_le _⟩ (fun H locs hP hD hS => ?_)
    obtain ⟨r_6, h_7, hf⟩ := bd1_el hf
    refine x_callVi (As := [.int r_4]) (rest := [.ref a0]) ⟨hx, hb, hml, hown, hts⟩ (mX8_find l D cy a0 a1 a2 a3 a4 a5 a6 st gr hi gh rc tx tl rk tb tk at_ ltr on_ tw th nu r_4 r_6 h_7) (cwV 1 hts (gcV_X8_find hbg wm_9_5) rfl rfl rfl kdX8_find ⟨Nat.le_of_ble_eq_true rfl, Nat.le_of_ble_eq_true rfl⟩) (w1 := []) (w2 := []) (w' := wX8 cy a0 a1 a2 a3 a4 a5 a6 st gr hi gh rc tx tl rk tb tk at_ ltr on_ tw th nu) (List.append_nil _) (List.append_nil _) hP hK hD hN hS hA (q0 := 0) rfl rfl rfl rfl hl rfl (Nat.le_of_ble_eq_true rfl) dX8_whyNotSettled_24 ⟨Nat.zero_le _, Nat.zero_le _⟩ (fun H locs hP hD hS => ?_)
    obtain ⟨r_8, h_9, hf⟩ := bd1_el hf
    refine x_callVi (As := [.int r_6]) (rest := []) ⟨hx, hb, hml, hown, hts⟩ (mX8_free l D cy a0 a1 a2 a3 a4 a5 a6 st gr hi gh rc tx tl rk tb tk at_ ltr on_ tw th nu r_6 r_8 h_9) (cwV 1 hts (gcV_X8_free hbg wm_15_8) rfl rfl rfl kdX8_free ⟨Nat.le_of_ble_eq_true rfl, Nat.le_of_ble_eq_true rfl⟩) (w1 := []) (w2 := []) (w' := wX8 cy a0 a1 a2 a3 a4 a5 a6 st gr hi gh rc tx tl rk tb tk at_ ltr on_ tw th nu) (List.append_nil _) (List.append_nil _) hP hK hD hN hS hA (q0 := 0) rfl rfl rfl rfl hl rfl (Nat.le_of_ble_eq_true rfl) dX8_whyNotSettled_27 ⟨Nat.zero_le _, Nat.zero_le _⟩ (fun H locs hP hD hS => ?_)
    refine lv_if_ne (tgt := 38) hx hb dX8_whyNotSettled_30 (by decide) (fun c_10 => ?_) (fun c_10 => ?_)
    · have hf := x_f c_10 hf
      refine lv_iconst (v := 0) hx hb dX8_whyNotSettled_38 (by decide) ?_
      have hf := Option.some.inj hf
      cases hf
      exact x_iret hx hb hr hlocks hK hP hD hS dX8_whyNotSettled_39
    · have hf := x_t c_10 hf
      refine lv_bipush (v := (-3)) hx hb dX8_whyNotSettled_33 (by decide) ?_
      refine lv_goto (tgt := 39) hx hb dX8_whyNotSettled_35 (by decide) ?_
      have hf := Option.some.inj hf
      cases hf
      exact x_iret hx hb hr hlocks hK hP hD hS dX8_whyNotSettled_39
  · have hf := x_t c_3 hf
    refine lv_iconst (v := (-1)) hx hb dX8_whyNotSettled_12 (by decide) ?_
    refine lv_goto (tgt := 39) hx hb dX8_whyNotSettled_13 (by decide) ?_
    have hf := Option.some.inj hf
    cases hf
    exact x_iret hx hb hr hlocks hK hP hD hS dX8_whyNotSettled_39
theorem kdX8_settles : yX8_settles.cls = RX8 ∧ yX8_settles.cls ≠ "java/lang/invoke/MethodHandle" ∧ yX8_settles.cls ≠ "java/lang/invoke/VarHandle" ∧ (parseMethodDescriptor yX8_settles.desc).map (fun d => d.parameters.length) = some 1 := by decide +kernel
def rmX8_settles : Room := { frames := 4, cells := 0, slots := 0, locals := 88 }
set_option maxHeartbeats 4000000 in
set_option maxRecDepth 100000 in
theorem mX8_settles (l : Launch) (D : va_G) (cy : Nat → ClassId) (a0 a1 a2 a3 a4 a5 a6 : Nat) (st : Nat → Int32) (gr : Nat → Int64) (hi : Nat → Int32) (gh : Nat → Int64) (rc : Int32) (tx : Nat → Int32) (tl : Int32) (rk : Nat → Int32) (tb : Int32) (tk : Int64) (at_ : Int32) (ltr : Int32) (on_ : Int32) (tw : Int32) (th : Int32) (nu : Int32) (p1 : Int32) (r : Int32) (st' : Nat → Int32) (gr' : Nat → Int64) (hf : fX8_settles st gr p1 = some (r, st', gr')) : xMi l D cy yX8_settles aX8_settles rmX8_settles ([.ref a0, .int p1] : List Value) (wX8 cy a0 a1 a2 a3 a4 a5 a6 st gr hi gh rc tx tl rk tb tk at_ ltr on_ tw th nu) (wX8 cy a0 a1 a2 a3 a4 a5 a6 st' gr' hi gh rc tx tl rk tb tk at_ ltr on_ tw th nu) r := by
  intro hz
  refine x_start (Qc := xQi D cy _ r) (cc := cX8_settles) (maxL := 5) (ret := (some .int)) (by decide) rfl (Nat.le_of_ble_eq_true rfl) (lv := [(0, .ref a0), (1, .int p1)]) rfl ?_
  intro p e s m below meth c ls A hx hb hr hml hown hts hlocks hK hP hD hS hA hN hl
  have hown : s.vm.findClass RX8 = some m.cls := hown
  have hbg : ∀ w ∈ wsL_law, w ∈ aX8_settles := fun w h => List.mem_cons_of_mem _ h
  have wd0 : (Cond.fieldLink RX8 13 "ClientMoneyBookModel" "great" "[J").before ([.ref a0, .int p1] : List Value).toArray s = true := hts _ (List.mem_cons_of_mem _ wm_4_10)
  have wd1 : (Cond.fieldLink RX8 7 "ClientMoneyBookModel" "state" "[I").before ([.ref a0, .int p1] : List Value).toArray s = true := hts _ (List.mem_cons_of_mem _ wm_4_9)
  have iX8 : ∀ w ∈ u_ws RX8 TX8 16, w ∈ aX8_settles := fun w h => List.mem_cons_of_mem _ (inlX8 w h)
  unfold fX8_settles at hf
  refine lv_aload_n hx hb dX8_settles_0 rfl (lv_at hl 0 rfl) ?_
  refine lv_iload_n hx hb dX8_settles_1 rfl (lv_at hl 1 rfl) ?_
  obtain ⟨r_1, h_2, hf⟩ := bd1_el hf
  refine x_callVi (As := [.int p1]) (rest := []) ⟨hx, hb, hml, hown, hts⟩ (mX8_findBill l D cy a0 a1 a2 a3 a4 a5 a6 st gr hi gh rc tx tl rk tb tk at_ ltr on_ tw th nu p1 r_1 h_2) (cwV 1 hts (gcV_X8_findBill hbg wm_20_20) rfl rfl rfl kdX8_findBill ⟨Nat.le_of_ble_eq_true rfl, Nat.le_of_ble_eq_true rfl⟩) (w1 := []) (w2 := []) (w' := wX8 cy a0 a1 a2 a3 a4 a5 a6 st gr hi gh rc tx tl rk tb tk at_ ltr on_ tw th nu) (List.append_nil _) (List.append_nil _) hP hK hD hN hS hA (q0 := 0) rfl rfl rfl rfl hl rfl (Nat.le_of_ble_eq_true rfl) dX8_settles_2 ⟨Nat.zero_le _, Nat.zero_le _⟩ (fun H locs hP hD hS => ?_)
  refine lv_istore_n (lv' := [(2, .int r_1), (0, .ref a0), (1, .int p1)]) hx hb dX8_settles_5 rfl hl (by decide) rfl (fun ls hl => ?_)
  refine lv_aload_n hx hb dX8_settles_6 rfl (lv_at hl 1 rfl) ?_
  refine lv_aload_n hx hb dX8_settles_7 rfl (lv_at hl 1 rfl) ?_
  refine lv_iload_n hx hb dX8_settles_8 rfl (lv_at hl 0 rfl) ?_
  refine lv_iconst (v := 1) hx hb dX8_settles_9 (by decide) ?_
  obtain ⟨r_3, h_4, hf⟩ := bd1_el hf
  refine x_callVi (As := [.int r_1, .int 1]) (rest := [.ref a0]) ⟨hx, hb, hml, hown, hts⟩ (mX8_billPart l D cy a0 a1 a2 a3 a4 a5 a6 st gr hi gh rc tx tl rk tb tk at_ ltr on_ tw th nu r_1 1 r_3 h_4) (cwV 2 hts (gcV_X8_billPart hbg wm_11_1) rfl rfl rfl kdX8_billPart ⟨Nat.le_of_ble_eq_true rfl, Nat.le_of_ble_eq_true rfl⟩) (w1 := []) (w2 := []) (w' := wX8 cy a0 a1 a2 a3 a4 a5 a6 st gr hi gh rc tx tl rk tb tk at_ ltr on_ tw th nu) (List.append_nil _) (List.append_nil _) hP hK hD hN hS hA (q0 := 0) rfl rfl rfl rfl hl rfl (Nat.le_of_ble_eq_true rfl) dX8_settles_10 ⟨Nat.zero_le _, Nat.zero_le _⟩ (fun H locs hP hD hS => ?_)
  obtain ⟨r_5, h_6, hf⟩ := bd1_el hf
  refine x_callVi (As := [.int r_3]) (rest := []) ⟨hx, hb, hml, hown, hts⟩ (mX8_find l D cy a0 a1 a2 a3 a4 a5 a6 st gr hi gh rc tx tl rk tb tk at_ ltr on_ tw th nu r_3 r_5 h_6) (cwV 1 hts (gcV_X8_find hbg wm_9_5) rfl rfl rfl kdX8_find ⟨Nat.le_of_ble_eq_true rfl, Nat.le_of_ble_eq_true rfl⟩) (w1 := []) (w2 := []) (w' := wX8 cy a0 a1 a2 a3 a4 a5 a6 st gr hi gh rc tx tl rk tb tk at_ ltr on_ tw th nu) (List.append_nil _) (List.append_nil _) hP hK hD hN hS hA (q0 := 0) rfl rfl rfl rfl hl rfl (Nat.le_of_ble_eq_true rfl) dX8_settles_13 ⟨Nat.zero_le _, Nat.zero_le _⟩ (fun H locs hP hD hS => ?_)
  refine lv_istore_n (lv' := [(3, .int r_5), (2, .int r_1), (0, .ref a0), (1, .int p1)]) hx hb dX8_settles_16 rfl hl (by decide) rfl (fun ls hl => ?_)
  refine lv_aload_n hx hb dX8_settles_17 rfl (lv_at hl 2 rfl) ?_
  refine lv_iload_n hx hb dX8_settles_18 rfl (lv_at hl 1 rfl) ?_
  refine lv_iconst (v := 2) hx hb dX8_settles_19 (by decide) ?_
  obtain ⟨r_7, h_8, hf⟩ := bd1_el hf
  refine x_callVi (As := [.int r_1, .int 2]) (rest := []) ⟨hx, hb, hml, hown, hts⟩ (mX8_billPart l D cy a0 a1 a2 a3 a4 a5 a6 st gr hi gh rc tx tl rk tb tk at_ ltr on_ tw th nu r_1 2 r_7 h_8) (cwV 2 hts (gcV_X8_billPart hbg wm_11_1) rfl rfl rfl kdX8_billPart ⟨Nat.le_of_ble_eq_true rfl, Nat.le_of_ble_eq_true rfl⟩) (w1 := []) (w2 := []) (w' := wX8 cy a0 a1 a2 a3 a4 a5 a6 st gr hi gh rc tx tl rk tb tk at_ ltr on_ tw th nu) (List.append_nil _) (List.append_nil _) hP hK hD hN hS hA (q0 := 0) rfl rfl rfl rfl hl rfl (Nat.le_of_ble_eq_true rfl) dX8_settles_20 ⟨Nat.zero_le _, Nat.zero_le _⟩ (fun H locs hP hD hS => ?_)
  refine lv_aload_n hx hb dX8_settles_23 rfl (lv_at hl 2 rfl) ?_
  refine lv_iload_n hx hb dX8_settles_24 rfl (lv_at hl 0 rfl) ?_
  obtain ⟨r_9, h_10, hf⟩ := bd1_el hf
  refine x_callVi (As := [.int r_5]) (rest := [.int r_7]) ⟨hx, hb, hml, hown, hts⟩ (mX8_free l D cy a0 a1 a2 a3 a4 a5 a6 st gr hi gh rc tx tl rk tb tk at_ ltr on_ tw th nu r_5 r_9 h_10) (cwV 1 hts (gcV_X8_free hbg wm_15_8) rfl rfl rfl kdX8_free ⟨Nat.le_of_ble_eq_true rfl, Nat.le_of_ble_eq_true rfl⟩) (w1 := []) (w2 := []) (w' := wX8 cy a0 a1 a2 a3 a4 a5 a6 st gr hi gh rc tx tl rk tb tk at_ ltr on_ tw th nu) (List.append_nil _) (List.append_nil _) hP hK hD hN hS hA (q0 := 0) rfl rfl rfl rfl hl rfl (Nat.le_of_ble_eq_true rfl) dX8_settles_25 ⟨Nat.zero_le _, Nat.zero_le _⟩ (fun H locs hP hD hS => ?_)
  refine lv_icmp_ge (tgt := 40) hx hb dX8_settles_28 (by decide) (fun c_11 => ?_) (fun c_11 => ?_)
  · have hf := x_t c_11 hf
    refine lv_aload_n hx hb dX8_settles_40 rfl (lv_at hl 2 rfl) ?_
    refine lv_iload_n hx hb dX8_settles_41 rfl (lv_at hl 0 rfl) ?_
    obtain ⟨r_12, h_13, hf⟩ := bd1_el hf
    refine x_callVi (As := [.int r_5]) (rest := []) ⟨hx, hb, hml, hown, hts⟩ (mX8_free l D cy a0 a1 a2 a3 a4 a5 a6 st gr hi gh rc tx tl rk tb tk at_ ltr on_ tw th nu r_5 r_12 h_13) (cwV 1 hts (gcV_X8_free hbg wm_15_8) rfl rfl rfl kdX8_free ⟨Nat.le_of_ble_eq_true rfl, Nat.le_of_ble_eq_true rfl⟩) (w1 := []) (w2 := []) (w' := wX8 cy a0 a1 a2 a3 a4 a5 a6 st gr hi gh rc tx tl rk tb tk at_ ltr on_ tw th nu) (List.append_nil _) (List.append_nil _) hP hK hD hN hS hA (q0 := 0) rfl rfl rfl rfl hl rfl (Nat.le_of_ble_eq_true rfl) dX8_settles_42 ⟨Nat.zero_le _, Nat.zero_le _⟩ (fun H locs hP hD hS => ?_)
    refine lv_istore (lv' := [(4, .int r_12), (3, .int r_5), (2, .int r_1), (0, .ref a0), (1, .int p1)]) hx hb dX8_settles_45 hl (by decide) rfl (fun ls hl => ?_)
    refine lv_aload_n hx hb dX8_settles_47 rfl (lv_at hl 3 rfl) ?_
    refine lv_iload_n hx hb dX8_settles_48 rfl (lv_at hl 1 rfl) ?_
    refine lv_iload hx hb dX8_settles_49 (lv_at hl 0 rfl) ?_
    refine lv_ineg hx hb dX8_settles_51 ?_
    obtain ⟨r_14, st_15, h_16, hf⟩ := bd2_el hf
    refine x_callVi (As := [.int r_5, .int (-r_12)]) (rest := []) ⟨hx, hb, hml, hown, hts⟩ (mX8_adds l D cy a0 a1 a2 a3 a4 a5 a6 st gr hi gh rc tx tl rk tb tk at_ ltr on_ tw th nu r_5 (-r_12) r_14 st_15 h_16) (cwV 2 hts (gcV_X8_adds hbg wm_13_17) rfl rfl rfl kdX8_adds ⟨Nat.le_of_ble_eq_true rfl, Nat.le_of_ble_eq_true rfl⟩) (w1 := []) (w2 := []) (w' := wX8 cy a0 a1 a2 a3 a4 a5 a6 st_15 gr hi gh rc tx tl rk tb tk at_ ltr on_ tw th nu) (List.append_nil _) (List.append_nil _) hP hK hD hN hS hA (q0 := 0) rfl rfl rfl rfl hl rfl (Nat.le_of_ble_eq_true rfl) dX8_settles_52 ⟨Nat.zero_le _, Nat.zero_le _⟩ (fun H locs hP hD hS => ?_)
    refine lv_pop hx hb dX8_settles_55 rfl ?_
    refine lv_aload_n hx hb dX8_settles_56 rfl (lv_at hl 3 rfl) ?_
    refine x_get hx hb (C := RX8) (T := TX8) (N := 16) (ci := 8) hts iX8 hown hK hP 0 rfl rfl 1 (by decide) wd0 rfl (.ref a2) rfl dX8_settles_57 ?_
    refine lv_bipush (v := 12) hx hb dX8_settles_60 (by decide) ?_
    refine lv_dup2_11 hx hb dX8_settles_62 rfl rfl ?_
    obtain ⟨hi_17, hf⟩ := ckI_el hf
    refine va_lald hx hb hK hP 2 2 rfl rfl hi_17 dX8_settles_63 ?_
    refine lv_iload hx hb dX8_settles_64 (lv_at hl 0 rfl) ?_
    refine lv_i2l (v := r_12.toInt64) hx hb dX8_settles_66 rfl ?_
    refine lv_ladd hx hb dX8_settles_67 ?_
    obtain ⟨hi_18, hf⟩ := ckI_el hf
    obtain ⟨gr_19, egr_19, hf⟩ := lt_el hf
    refine x_last hx hb hK hP hD hS 2 rfl hi_18 egr_19 (w' := wX8 cy a0 a1 a2 a3 a4 a5 a6 st_15 gr_19 hi gh rc tx tl rk tb tk at_ ltr on_ tw th nu) rfl dX8_settles_68 (fun H locs hP hD hS => ?_)
    refine lv_aload_n hx hb dX8_settles_69 rfl (lv_at hl 3 rfl) ?_
    refine x_get hx hb (C := RX8) (T := TX8) (N := 16) (ci := 8) hts iX8 hown hK hP 0 rfl rfl 0 (by decide) wd1 rfl (.ref a1) rfl dX8_settles_70 ?_
    refine lv_bipush (v := 108) hx hb dX8_settles_73 (by decide) ?_
    refine lv_iconst (v := 4) hx hb dX8_settles_75 (by decide) ?_
    refine lv_iload_n hx hb dX8_settles_76 rfl (lv_at hl 2 rfl) ?_
    refine lv_imul hx hb dX8_settles_77 ?_
    refine lv_iadd hx hb dX8_settles_78 ?_
    refine lv_iconst (v := 2) hx hb dX8_settles_79 (by decide) ?_
    refine lv_iadd hx hb dX8_settles_80 ?_
    refine lv_dup2_11 hx hb dX8_settles_81 rfl rfl ?_
    obtain ⟨hi_20, hf⟩ := ckI_el hf
    refine va_iald hx hb hK hP 1 1 rfl rfl hi_20 dX8_settles_82 ?_
    refine lv_iload hx hb dX8_settles_83 (lv_at hl 0 rfl) ?_
    refine lv_isub hx hb dX8_settles_85 ?_
    obtain ⟨hi_21, hf⟩ := ckI_el hf
    obtain ⟨st_22, est_22, hf⟩ := lt_el hf
    refine x_iast hx hb hK hP hD hS 1 rfl hi_21 est_22 (w' := wX8 cy a0 a1 a2 a3 a4 a5 a6 st_22 gr_19 hi gh rc tx tl rk tb tk at_ ltr on_ tw th nu) rfl dX8_settles_86 (fun H locs hP hD hS => ?_)
    refine lv_aload_n hx hb dX8_settles_87 rfl (lv_at hl 3 rfl) ?_
    refine x_get hx hb (C := RX8) (T := TX8) (N := 16) (ci := 8) hts iX8 hown hK hP 0 rfl rfl 0 (by decide) wd1 rfl (.ref a1) rfl dX8_settles_88 ?_
    refine lv_bipush (v := 108) hx hb dX8_settles_91 (by decide) ?_
    refine lv_iconst (v := 4) hx hb dX8_settles_93 (by decide) ?_
    refine lv_iload_n hx hb dX8_settles_94 rfl (lv_at hl 2 rfl) ?_
    refine lv_imul hx hb dX8_settles_95 ?_
    refine lv_iadd hx hb dX8_settles_96 ?_
    refine lv_iconst (v := 3) hx hb dX8_settles_97 (by decide) ?_
    refine lv_iadd hx hb dX8_settles_98 ?_
    refine lv_dup2_11 hx hb dX8_settles_99 rfl rfl ?_
    obtain ⟨hi_23, hf⟩ := ckI_el hf
    refine va_iald hx hb hK hP 1 1 rfl rfl hi_23 dX8_settles_100 ?_
    refine lv_iload hx hb dX8_settles_101 (lv_at hl 0 rfl) ?_
    refine lv_iadd hx hb dX8_settles_103 ?_
    obtain ⟨hi_24, hf⟩ := ckI_el hf
    obtain ⟨st_25, est_25, hf⟩ := lt_el hf
    refine x_iast hx hb hK hP hD hS 1 rfl hi_24 est_25 (w' := wX8 cy a0 a1 a2 a3 a4 a5 a6 st_25 gr_19 hi gh rc tx tl rk tb tk at_ ltr on_ tw th nu) rfl dX8_settles_104 (fun H locs hP hD hS => ?_)
    refine lv_aload_n hx hb dX8_settles_105 rfl (lv_at hl 3 rfl) ?_
    refine lv_iconst (v := 4) hx hb dX8_settles_106 (by decide) ?_
    refine lv_aload_n hx hb dX8_settles_107 rfl (lv_at hl 3 rfl) ?_
    refine lv_iload_n hx hb dX8_settles_108 rfl (lv_at hl 1 rfl) ?_
    refine lv_iconst (v := 0) hx hb dX8_settles_109 (by decide) ?_
    obtain ⟨r_26, h_27, hf⟩ := bd1_el hf
    refine x_callVi (As := [.int r_5, .int 0]) (rest := [.int 4, .ref a0]) ⟨hx, hb, hml, hown, hts⟩ (mX8_part l D cy a0 a1 a2 a3 a4 a5 a6 st_25 gr_19 hi gh rc tx tl rk tb tk at_ ltr on_ tw th nu r_5 0 r_26 h_27) (cwV 2 hts (gcV_X8_part hbg wm_9_9) rfl rfl rfl kdX8_part ⟨Nat.le_of_ble_eq_true rfl, Nat.le_of_ble_eq_true rfl⟩) (w1 := []) (w2 := []) (w' := wX8 cy a0 a1 a2 a3 a4 a5 a6 st_25 gr_19 hi gh rc tx tl rk tb tk at_ ltr on_ tw th nu) (List.append_nil _) (List.append_nil _) hP hK hD hN hS hA (q0 := 0) rfl rfl rfl rfl hl rfl (Nat.le_of_ble_eq_true rfl) dX8_settles_110 ⟨Nat.zero_le _, Nat.zero_le _⟩ (fun H locs hP hD hS => ?_)
    refine lv_iconst (v := 0) hx hb dX8_settles_113 (by decide) ?_
    refine lv_iload hx hb dX8_settles_114 (lv_at hl 0 rfl) ?_
    obtain ⟨r_28, st_29, h_30, hf⟩ := bd2_el hf
    refine x_callVi (As := [.int 4, .int r_26, .int 0, .int r_12]) (rest := []) ⟨hx, hb, hml, hown, hts⟩ (mX8_enters l D cy a0 a1 a2 a3 a4 a5 a6 st_25 gr_19 hi gh rc tx tl rk tb tk at_ ltr on_ tw th nu 4 r_26 0 r_12 r_28 st_29 h_30) (cwV 4 hts (gcV_X8_enters hbg wm_13_21) rfl rfl rfl kdX8_enters ⟨Nat.le_of_ble_eq_true rfl, Nat.le_of_ble_eq_true rfl⟩) (w1 := []) (w2 := []) (w' := wX8 cy a0 a1 a2 a3 a4 a5 a6 st_29 gr_19 hi gh rc tx tl rk tb tk at_ ltr on_ tw th nu) (List.append_nil _) (List.append_nil _) hP hK hD hN hS hA (q0 := 0) rfl rfl rfl rfl hl rfl (Nat.le_of_ble_eq_true rfl) dX8_settles_116 ⟨Nat.zero_le _, Nat.zero_le _⟩ (fun H locs hP hD hS => ?_)
    refine lv_pop hx hb dX8_settles_119 rfl ?_
    refine lv_aload_n hx hb dX8_settles_120 rfl (lv_at hl 3 rfl) ?_
    refine lv_iload_n hx hb dX8_settles_121 rfl (lv_at hl 2 rfl) ?_
    refine lv_iconst (v := 2) hx hb dX8_settles_122 (by decide) ?_
    obtain ⟨r_31, h_32, hf⟩ := bd1_el hf
    refine x_callVi (As := [.int r_1, .int 2]) (rest := []) ⟨hx, hb, hml, hown, hts⟩ (mX8_billPart l D cy a0 a1 a2 a3 a4 a5 a6 st_29 gr_19 hi gh rc tx tl rk tb tk at_ ltr on_ tw th nu r_1 2 r_31 h_32) (cwV 2 hts (gcV_X8_billPart hbg wm_11_1) rfl rfl rfl kdX8_billPart ⟨Nat.le_of_ble_eq_true rfl, Nat.le_of_ble_eq_true rfl⟩) (w1 := []) (w2 := []) (w' := wX8 cy a0 a1 a2 a3 a4 a5 a6 st_29 gr_19 hi gh rc tx tl rk tb tk at_ ltr on_ tw th nu) (List.append_nil _) (List.append_nil _) hP hK hD hN hS hA (q0 := 0) rfl rfl rfl rfl hl rfl (Nat.le_of_ble_eq_true rfl) dX8_settles_123 ⟨Nat.zero_le _, Nat.zero_le _⟩ (fun H locs hP hD hS => ?_)
    refine lv_if_ne (tgt := 154) hx hb dX8_settles_126 (by decide) (fun c_33 => ?_) (fun c_33 => ?_)
    · have hf := x_f c_33 hf
      refine lv_iload hx hb dX8_settles_154 (lv_at hl 0 rfl) ?_
      have hf := Option.some.inj hf
      cases hf
      exact x_iret hx hb hr hlocks hK hP hD hS dX8_settles_156
    · have hf := x_t c_33 hf
      refine lv_aload_n hx hb dX8_settles_129 rfl (lv_at hl 3 rfl) ?_
      refine lv_bipush (v := 108) hx hb dX8_settles_130 (by decide) ?_
      refine lv_iload_n hx hb dX8_settles_132 rfl (lv_at hl 2 rfl) ?_
      refine lv_aload_n hx hb dX8_settles_133 rfl (lv_at hl 3 rfl) ?_
      refine x_get hx hb (C := RX8) (T := TX8) (N := 16) (ci := 8) hts iX8 hown hK hP 0 rfl rfl 0 (by decide) wd1 rfl (.ref a1) rfl dX8_settles_134 ?_
      refine lv_bipush (v := 7) hx hb dX8_settles_137 (by decide) ?_
      obtain ⟨hi_34, hf⟩ := ckI_el hf
      refine va_iald hx hb hK hP 1 1 rfl rfl hi_34 dX8_settles_139 ?_
      obtain ⟨st_35, h_36, hf⟩ := bd1_el hf
      refine x_callVv (As := [.int 108, .int r_1, .int (st_29 (7 : Int32).toNatClampNeg)]) (rest := []) ⟨hx, hb, hml, hown, hts⟩ (mX8_takesOut l D cy a0 a1 a2 a3 a4 a5 a6 st_29 gr_19 hi gh rc tx tl rk tb tk at_ ltr on_ tw th nu 108 r_1 (st_29 (7 : Int32).toNatClampNeg) st_35 h_36) (cwV 3 hts (gcV_X8_takesOut hbg wm_19_2) rfl rfl rfl kdX8_takesOut ⟨Nat.le_of_ble_eq_true rfl, Nat.le_of_ble_eq_true rfl⟩) (w1 := []) (w2 := []) (w' := wX8 cy a0 a1 a2 a3 a4 a5 a6 st_35 gr_19 hi gh rc tx tl rk tb tk at_ ltr on_ tw th nu) (List.append_nil _) (List.append_nil _) hP hK hD hN hS hA (q0 := 0) rfl rfl rfl rfl hl rfl (Nat.le_of_ble_eq_true rfl) dX8_settles_140 ⟨Nat.zero_le _, Nat.zero_le _⟩ (fun H locs hP hD hS => ?_)
      refine lv_aload_n hx hb dX8_settles_143 rfl (lv_at hl 3 rfl) ?_
      refine x_get hx hb (C := RX8) (T := TX8) (N := 16) (ci := 8) hts iX8 hown hK hP 0 rfl rfl 0 (by decide) wd1 rfl (.ref a1) rfl dX8_settles_144 ?_
      refine lv_bipush (v := 7) hx hb dX8_settles_147 (by decide) ?_
      refine lv_dup2_11 hx hb dX8_settles_149 rfl rfl ?_
      obtain ⟨hi_37, hf⟩ := ckI_el hf
      refine va_iald hx hb hK hP 1 1 rfl rfl hi_37 dX8_settles_150 ?_
      refine lv_iconst (v := 1) hx hb dX8_settles_151 (by decide) ?_
      refine lv_isub hx hb dX8_settles_152 ?_
      obtain ⟨hi_38, hf⟩ := ckI_el hf
      obtain ⟨st_39, est_39, hf⟩ := lt_el hf
      refine x_iast hx hb hK hP hD hS 1 rfl hi_38 est_39 (w' := wX8 cy a0 a1 a2 a3 a4 a5 a6 st_39 gr_19 hi gh rc tx tl rk tb tk at_ ltr on_ tw th nu) rfl dX8_settles_153 (fun H locs hP hD hS => ?_)
      refine lv_iload hx hb dX8_settles_154 (lv_at hl 0 rfl) ?_
      have hf := Option.some.inj hf
      cases hf
      exact x_iret hx hb hr hlocks hK hP hD hS dX8_settles_156
  · have hf := x_f c_11 hf
    refine lv_aload_n hx hb dX8_settles_31 rfl (lv_at hl 2 rfl) ?_
    refine lv_iload_n hx hb dX8_settles_32 rfl (lv_at hl 1 rfl) ?_
    refine lv_iconst (v := 2) hx hb dX8_settles_33 (by decide) ?_
    obtain ⟨r_40, h_41, hf⟩ := bd1_el hf
    refine x_callVi (As := [.int r_1, .int 2]) (rest := []) ⟨hx, hb, hml, hown, hts⟩ (mX8_billPart l D cy a0 a1 a2 a3 a4 a5 a6 st gr hi gh rc tx tl rk tb tk at_ ltr on_ tw th nu r_1 2 r_40 h_41) (cwV 2 hts (gcV_X8_billPart hbg wm_11_1) rfl rfl rfl kdX8_billPart ⟨Nat.le_of_ble_eq_true rfl, Nat.le_of_ble_eq_true rfl⟩) (w1 := []) (w2 := []) (w' := wX8 cy a0 a1 a2 a3 a4 a5 a6 st gr hi gh rc tx tl rk tb tk at_ ltr on_ tw th nu) (List.append_nil _) (List.append_nil _) hP hK hD hN hS hA (q0 := 0) rfl rfl rfl rfl hl rfl (Nat.le_of_ble_eq_true rfl) dX8_settles_34 ⟨Nat.zero_le _, Nat.zero_le _⟩ (fun H locs hP hD hS => ?_)
    refine lv_goto (tgt := 45) hx hb dX8_settles_37 (by decide) ?_
    refine lv_istore (lv' := [(4, .int r_40), (3, .int r_5), (2, .int r_1), (0, .ref a0), (1, .int p1)]) hx hb dX8_settles_45 hl (by decide) rfl (fun ls hl => ?_)
    refine lv_aload_n hx hb dX8_settles_47 rfl (lv_at hl 3 rfl) ?_
    refine lv_iload_n hx hb dX8_settles_48 rfl (lv_at hl 1 rfl) ?_
    refine lv_iload hx hb dX8_settles_49 (lv_at hl 0 rfl) ?_
    refine lv_ineg hx hb dX8_settles_51 ?_
    obtain ⟨r_42, st_43, h_44, hf⟩ := bd2_el hf
    refine x_callVi (As := [.int r_5, .int (-r_40)]) (rest := []) ⟨hx, hb, hml, hown, hts⟩ (mX8_adds l D cy a0 a1 a2 a3 a4 a5 a6 st gr hi gh rc tx tl rk tb tk at_ ltr on_ tw th nu r_5 (-r_40) r_42 st_43 h_44) (cwV 2 hts (gcV_X8_adds hbg wm_13_17) rfl rfl rfl kdX8_adds ⟨Nat.le_of_ble_eq_true rfl, Nat.le_of_ble_eq_true rfl⟩) (w1 := []) (w2 := []) (w' := wX8 cy a0 a1 a2 a3 a4 a5 a6 st_43 gr hi gh rc tx tl rk tb tk at_ ltr on_ tw th nu) (List.append_nil _) (List.append_nil _) hP hK hD hN hS hA (q0 := 0) rfl rfl rfl rfl hl rfl (Nat.le_of_ble_eq_true rfl) dX8_settles_52 ⟨Nat.zero_le _, Nat.zero_le _⟩ (fun H locs hP hD hS => ?_)
    refine lv_pop hx hb dX8_settles_55 rfl ?_
    refine lv_aload_n hx hb dX8_settles_56 rfl (lv_at hl 3 rfl) ?_
    refine x_get hx hb (C := RX8) (T := TX8) (N := 16) (ci := 8) hts iX8 hown hK hP 0 rfl rfl 1 (by decide) wd0 rfl (.ref a2) rfl dX8_settles_57 ?_
    refine lv_bipush (v := 12) hx hb dX8_settles_60 (by decide) ?_
    refine lv_dup2_11 hx hb dX8_settles_62 rfl rfl ?_
    obtain ⟨hi_45, hf⟩ := ckI_el hf
    refine va_lald hx hb hK hP 2 2 rfl rfl hi_45 dX8_settles_63 ?_
    refine lv_iload hx hb dX8_settles_64 (lv_at hl 0 rfl) ?_
    refine lv_i2l (v := r_40.toInt64) hx hb dX8_settles_66 rfl ?_
    refine lv_ladd hx hb dX8_settles_67 ?_
    obtain ⟨hi_46, hf⟩ := ckI_el hf
    obtain ⟨gr_47, egr_47, hf⟩ := lt_el hf
    refine x_last hx hb hK hP hD hS 2 rfl hi_46 egr_47 (w' := wX8 cy a0 a1 a2 a3 a4 a5 a6 st_43 gr_47 hi gh rc tx tl rk tb tk at_ ltr on_ tw th nu) rfl dX8_settles_68 (fun H locs hP hD hS => ?_)
    refine lv_aload_n hx hb dX8_settles_69 rfl (lv_at hl 3 rfl) ?_
    refine x_get hx hb (C := RX8) (T := TX8) (N := 16) (ci := 8) hts iX8 hown hK hP 0 rfl rfl 0 (by decide) wd1 rfl (.ref a1) rfl dX8_settles_70 ?_
    refine lv_bipush (v := 108) hx hb dX8_settles_73 (by decide) ?_
    refine lv_iconst (v := 4) hx hb dX8_settles_75 (by decide) ?_
    refine lv_iload_n hx hb dX8_settles_76 rfl (lv_at hl 2 rfl) ?_
    refine lv_imul hx hb dX8_settles_77 ?_
    refine lv_iadd hx hb dX8_settles_78 ?_
    refine lv_iconst (v := 2) hx hb dX8_settles_79 (by decide) ?_
    refine lv_iadd hx hb dX8_settles_80 ?_
    refine lv_dup2_11 hx hb dX8_settles_81 rfl rfl ?_
    obtain ⟨hi_48, hf⟩ := ckI_el hf
    refine va_iald hx hb hK hP 1 1 rfl rfl hi_48 dX8_settles_82 ?_
    refine lv_iload hx hb dX8_settles_83 (lv_at hl 0 rfl) ?_
    refine lv_isub hx hb dX8_settles_85 ?_
    obtain ⟨hi_49, hf⟩ := ckI_el hf
    obtain ⟨st_50, est_50, hf⟩ := lt_el hf
    refine x_iast hx hb hK hP hD hS 1 rfl hi_49 est_50 (w' := wX8 cy a0 a1 a2 a3 a4 a5 a6 st_50 gr_47 hi gh rc tx tl rk tb tk at_ ltr on_ tw th nu) rfl dX8_settles_86 (fun H locs hP hD hS => ?_)
    refine lv_aload_n hx hb dX8_settles_87 rfl (lv_at hl 3 rfl) ?_
    refine x_get hx hb (C := RX8) (T := TX8) (N := 16) (ci := 8) hts iX8 hown hK hP 0 rfl rfl 0 (by decide) wd1 rfl (.ref a1) rfl dX8_settles_88 ?_
    refine lv_bipush (v := 108) hx hb dX8_settles_91 (by decide) ?_
    refine lv_iconst (v := 4) hx hb dX8_settles_93 (by decide) ?_
    refine lv_iload_n hx hb dX8_settles_94 rfl (lv_at hl 2 rfl) ?_
    refine lv_imul hx hb dX8_settles_95 ?_
    refine lv_iadd hx hb dX8_settles_96 ?_
    refine lv_iconst (v := 3) hx hb dX8_settles_97 (by decide) ?_
    refine lv_iadd hx hb dX8_settles_98 ?_
    refine lv_dup2_11 hx hb dX8_settles_99 rfl rfl ?_
    obtain ⟨hi_51, hf⟩ := ckI_el hf
    refine va_iald hx hb hK hP 1 1 rfl rfl hi_51 dX8_settles_100 ?_
    refine lv_iload hx hb dX8_settles_101 (lv_at hl 0 rfl) ?_
    refine lv_iadd hx hb dX8_settles_103 ?_
    obtain ⟨hi_52, hf⟩ := ckI_el hf
    obtain ⟨st_53, est_53, hf⟩ := lt_el hf
    refine x_iast hx hb hK hP hD hS 1 rfl hi_52 est_53 (w' := wX8 cy a0 a1 a2 a3 a4 a5 a6 st_53 gr_47 hi gh rc tx tl rk tb tk at_ ltr on_ tw th nu) rfl dX8_settles_104 (fun H locs hP hD hS => ?_)
    refine lv_aload_n hx hb dX8_settles_105 rfl (lv_at hl 3 rfl) ?_
    refine lv_iconst (v := 4) hx hb dX8_settles_106 (by decide) ?_
    refine lv_aload_n hx hb dX8_settles_107 rfl (lv_at hl 3 rfl) ?_
    refine lv_iload_n hx hb dX8_settles_108 rfl (lv_at hl 1 rfl) ?_
    refine lv_iconst (v := 0) hx hb dX8_settles_109 (by decide) ?_
    obtain ⟨r_54, h_55, hf⟩ := bd1_el hf
    refine x_callVi (As := [.int r_5, .int 0]) (rest := [.int 4, .ref a0]) ⟨hx, hb, hml, hown, hts⟩ (mX8_part l D cy a0 a1 a2 a3 a4 a5 a6 st_53 gr_47 hi gh rc tx tl rk tb tk at_ ltr on_ tw th nu r_5 0 r_54 h_55) (cwV 2 hts (gcV_X8_part hbg wm_9_9) rfl rfl rfl kdX8_part ⟨Nat.le_of_ble_eq_true rfl, Nat.le_of_ble_eq_true rfl⟩) (w1 := []) (w2 := []) (w' := wX8 cy a0 a1 a2 a3 a4 a5 a6 st_53 gr_47 hi gh rc tx tl rk tb tk at_ ltr on_ tw th nu) (List.append_nil _) (List.append_nil _) hP hK hD hN hS hA (q0 := 0) rfl rfl rfl rfl hl rfl (Nat.le_of_ble_eq_true rfl) dX8_settles_110 ⟨Nat.zero_le _, Nat.zero_le _⟩ (fun H locs hP hD hS => ?_)
    refine lv_iconst (v := 0) hx hb dX8_settles_113 (by decide) ?_
    refine lv_iload hx hb dX8_settles_114 (lv_at hl 0 rfl) ?_
    obtain ⟨r_56, st_57, h_58, hf⟩ := bd2_el hf
    refine x_callVi (As := [.int 4, .int r_54, .int 0, .int r_40]) (rest := []) ⟨hx, hb, hml, hown, hts⟩ (mX8_enters l D cy a0 a1 a2 a3 a4 a5 a6 st_53 gr_47 hi gh rc tx tl rk tb tk at_ ltr on_ tw th nu 4 r_54 0 r_40 r_56 st_57 h_58) (cwV 4 hts (gcV_X8_enters hbg wm_13_21) rfl rfl rfl kdX8_enters ⟨Nat.le_of_ble_eq_true rfl, Nat.le_of_ble_eq_true rfl⟩) (w1 := []) (w2 := []) (w' := wX8 cy a0 a1 a2 a3 a4 a5 a6 st_57 gr_47 hi gh rc tx tl rk tb tk at_ ltr on_ tw th nu) (List.append_nil _) (List.append_nil _) hP hK hD hN hS hA (q0 := 0) rfl rfl rfl rfl hl rfl (Nat.le_of_ble_eq_true rfl) dX8_settles_116 ⟨Nat.zero_le _, Nat.zero_le _⟩ (fun H locs hP hD hS => ?_)
    refine lv_pop hx hb dX8_settles_119 rfl ?_
    refine lv_aload_n hx hb dX8_settles_120 rfl (lv_at hl 3 rfl) ?_
    refine lv_iload_n hx hb dX8_settles_121 rfl (lv_at hl 2 rfl) ?_
    refine lv_iconst (v := 2) hx hb dX8_settles_122 (by decide) ?_
    obtain ⟨r_59, h_60, hf⟩ := bd1_el hf
    refine x_callVi (As := [.int r_1, .int 2]) (rest := []) ⟨hx, hb, hml, hown, hts⟩ (mX8_billPart l D cy a0 a1 a2 a3 a4 a5 a6 st_57 gr_47 hi gh rc tx tl rk tb tk at_ ltr on_ tw th nu r_1 2 r_59 h_60) (cwV 2 hts (gcV_X8_billPart hbg wm_11_1) rfl rfl rfl kdX8_billPart ⟨Nat.le_of_ble_eq_true rfl, Nat.le_of_ble_eq_true rfl⟩) (w1 := []) (w2 := []) (w' := wX8 cy a0 a1 a2 a3 a4 a5 a6 st_57 gr_47 hi gh rc tx tl rk tb tk at_ ltr on_ tw th nu) (List.append_nil _) (List.append_nil _) hP hK hD hN hS hA (q0 := 0) rfl rfl rfl rfl hl rfl (Nat.le_of_ble_eq_true rfl) dX8_settles_123 ⟨Nat.zero_le _, Nat.zero_le _⟩ (fun H locs hP hD hS => ?_)
    refine lv_if_ne (tgt := 154) hx hb dX8_settles_126 (by decide) (fun c_61 => ?_) (fun c_61 => ?_)
    · have hf := x_f c_61 hf
      refine lv_iload hx hb dX8_settles_154 (lv_at hl 0 rfl) ?_
      have hf := Option.some.inj hf
      cases hf
      exact x_iret hx hb hr hlocks hK hP hD hS dX8_settles_156
    · have hf := x_t c_61 hf
      refine lv_aload_n hx hb dX8_settles_129 rfl (lv_at hl 3 rfl) ?_
      refine lv_bipush (v := 108) hx hb dX8_settles_130 (by decide) ?_
      refine lv_iload_n hx hb dX8_settles_132 rfl (lv_at hl 2 rfl) ?_
      refine lv_aload_n hx hb dX8_settles_133 rfl (lv_at hl 3 rfl) ?_
      refine x_get hx hb (C := RX8) (T := TX8) (N := 16) (ci := 8) hts iX8 hown hK hP 0 rfl rfl 0 (by decide) wd1 rfl (.ref a1) rfl dX8_settles_134 ?_
      refine lv_bipush (v := 7) hx hb dX8_settles_137 (by decide) ?_
      obtain ⟨hi_62, hf⟩ := ckI_el hf
      refine va_iald hx hb hK hP 1 1 rfl rfl hi_62 dX8_settles_139 ?_
      obtain ⟨st_63, h_64, hf⟩ := bd1_el hf
      refine x_callVv (As := [.int 108, .int r_1, .int (st_57 (7 : Int32).toNatClampNeg)]) (rest := []) ⟨hx, hb, hml, hown, hts⟩ (mX8_takesOut l D cy a0 a1 a2 a3 a4 a5 a6 st_57 gr_47 hi gh rc tx tl rk tb tk at_ ltr on_ tw th nu 108 r_1 (st_57 (7 : Int32).toNatClampNeg) st_63 h_64) (cwV 3 hts (gcV_X8_takesOut hbg wm_19_2) rfl rfl rfl kdX8_takesOut ⟨Nat.le_of_ble_eq_true rfl, Nat.le_of_ble_eq_true rfl⟩) (w1 := []) (w2 := []) (w' := wX8 cy a0 a1 a2 a3 a4 a5 a6 st_63 gr_47 hi gh rc tx tl rk tb tk at_ ltr on_ tw th nu) (List.append_nil _) (List.append_nil _) hP hK hD hN hS hA (q0 := 0) rfl rfl rfl rfl hl rfl (Nat.le_of_ble_eq_true rfl) dX8_settles_140 ⟨Nat.zero_le _, Nat.zero_le _⟩ (fun H locs hP hD hS => ?_)
      refine lv_aload_n hx hb dX8_settles_143 rfl (lv_at hl 3 rfl) ?_
      refine x_get hx hb (C := RX8) (T := TX8) (N := 16) (ci := 8) hts iX8 hown hK hP 0 rfl rfl 0 (by decide) wd1 rfl (.ref a1) rfl dX8_settles_144 ?_
      refine lv_bipush (v := 7) hx hb dX8_settles_147 (by decide) ?_
      refine lv_dup2_11 hx hb dX8_settles_149 rfl rfl ?_
      obtain ⟨hi_65, hf⟩ := ckI_el hf
      refine va_iald hx hb hK hP 1 1 rfl rfl hi_65 dX8_settles_150 ?_
      refine lv_iconst (v := 1) hx hb dX8_settles_151 (by decide) ?_
      refine lv_isub hx hb dX8_settles_152 ?_
      obtain ⟨hi_66, hf⟩ := ckI_el hf
      obtain ⟨st_67, est_67, hf⟩ := lt_el hf
      refine x_iast hx hb hK hP hD hS 1 rfl hi_66 est_67 (w' := wX8 cy a0 a1 a2 a3 a4 a5 a6 st_67 gr_47 hi gh rc tx tl rk tb tk at_ ltr on_ tw th nu) rfl dX8_settles_153 (fun H locs hP hD hS => ?_)
      refine lv_iload hx hb dX8_settles_154 (lv_at hl 0 rfl) ?_
      have hf := Option.some.inj hf
      cases hf
      exact x_iret hx hb hr hlocks hK hP hD hS dX8_settles_156
theorem kdX8_settle : yX8_settle.cls = RX8 ∧ yX8_settle.cls ≠ "java/lang/invoke/MethodHandle" ∧ yX8_settle.cls ≠ "java/lang/invoke/VarHandle" ∧ (parseMethodDescriptor yX8_settle.desc).map (fun d => d.parameters.length) = some 1 := by decide +kernel
def rmX8_settle : Room := { frames := 5, cells := 0, slots := 0, locals := 112 }
set_option maxHeartbeats 4000000 in
set_option maxRecDepth 100000 in
theorem mX8_settle (l : Launch) (D : va_G) (cy : Nat → ClassId) (a0 a1 a2 a3 a4 a5 a6 : Nat) (st : Nat → Int32) (gr : Nat → Int64) (hi : Nat → Int32) (gh : Nat → Int64) (rc : Int32) (tx : Nat → Int32) (tl : Int32) (rk : Nat → Int32) (tb : Int32) (tk : Int64) (at_ : Int32) (ltr : Int32) (on_ : Int32) (tw : Int32) (th : Int32) (nu : Int32) (p1 : Int32) (r : Int32) (st' : Nat → Int32) (gr' : Nat → Int64) (hi' : Nat → Int32) (gh' : Nat → Int64) (rc' : Int32) (hf : fX8_settle st gr hi gh rc p1 = some (r, st', gr', hi', gh', rc')) : xMi l D cy yX8_settle aX8_settle rmX8_settle ([.ref a0, .int p1] : List Value) (wX8 cy a0 a1 a2 a3 a4 a5 a6 st gr hi gh rc tx tl rk tb tk at_ ltr on_ tw th nu) (wX8 cy a0 a1 a2 a3 a4 a5 a6 st' gr' hi' gh' rc' tx tl rk tb tk at_ ltr on_ tw th nu) r := by
  intro hz
  refine x_start (Qc := xQi D cy _ r) (cc := cX8_settle) (maxL := 3) (ret := (some .int)) (by decide) rfl (Nat.le_of_ble_eq_true rfl) (lv := [(0, .ref a0), (1, .int p1)]) rfl ?_
  intro p e s m below meth c ls A hx hb hr hml hown hts hlocks hK hP hD hS hA hN hl
  have hown : s.vm.findClass RX8 = some m.cls := hown
  have hbg : ∀ w ∈ wsL_law, w ∈ aX8_settle := fun w h => List.mem_cons_of_mem _ h
  unfold fX8_settle at hf
  refine lv_aload_n hx hb dX8_settle_0 rfl (lv_at hl 0 rfl) ?_
  refine lv_iload_n hx hb dX8_settle_1 rfl (lv_at hl 1 rfl) ?_
  obtain ⟨r_1, h_2, hf⟩ := bd1_el hf
  refine x_callVi (As := [.int p1]) (rest := []) ⟨hx, hb, hml, hown, hts⟩ (mX8_whyNotSettled l D cy a0 a1 a2 a3 a4 a5 a6 st gr hi gh rc tx tl rk tb tk at_ ltr on_ tw th nu p1 r_1 h_2) (cwV 1 hts (gcV_X8_whyNotSettled hbg wm_20_16) rfl rfl rfl kdX8_whyNotSettled ⟨Nat.le_of_ble_eq_true rfl, Nat.le_of_ble_eq_true rfl⟩) (w1 := []) (w2 := []) (w' := wX8 cy a0 a1 a2 a3 a4 a5 a6 st gr hi gh rc tx tl rk tb tk at_ ltr on_ tw th nu) (List.append_nil _) (List.append_nil _) hP hK hD hN hS hA (q0 := 0) rfl rfl rfl rfl hl rfl (Nat.le_of_ble_eq_true rfl) dX8_settle_2 ⟨Nat.zero_le _, Nat.zero_le _⟩ (fun H locs hP hD hS => ?_)
  refine lv_istore_n (lv' := [(2, .int r_1), (0, .ref a0), (1, .int p1)]) hx hb dX8_settle_5 rfl hl (by decide) rfl (fun ls hl => ?_)
  refine lv_iload_n hx hb dX8_settle_6 rfl (lv_at hl 0 rfl) ?_
  refine lv_if_ge (tgt := 12) hx hb dX8_settle_7 (by decide) (fun c_3 => ?_) (fun c_3 => ?_)
  · have hf := x_t c_3 hf
    refine lv_aload_n hx hb dX8_settle_12 rfl (lv_at hl 1 rfl) ?_
    obtain ⟨hi_4, gh_5, rc_6, h_7, hf⟩ := bd3_el hf
    refine x_callVv (As := []) (rest := []) ⟨hx, hb, hml, hown, hts⟩ (mX8_record l D cy a0 a1 a2 a3 a4 a5 a6 st gr hi gh rc tx tl rk tb tk at_ ltr on_ tw th nu  hi_4 gh_5 rc_6 h_7) (cwV 0 hts (gcV_X8_record hbg wm_7_3) rfl rfl rfl kdX8_record ⟨Nat.le_of_ble_eq_true rfl, Nat.le_of_ble_eq_true rfl⟩) (w1 := []) (w2 := []) (w' := wX8 cy a0 a1 a2 a3 a4 a5 a6 st gr hi_4 gh_5 rc_6 tx tl rk tb tk at_ ltr on_ tw th nu) (List.append_nil _) (List.append_nil _) hP hK hD hN hS hA (q0 := 0) rfl rfl rfl rfl hl rfl (Nat.le_of_ble_eq_true rfl) dX8_settle_13 ⟨Nat.zero_le _, Nat.zero_le _⟩ (fun H locs hP hD hS => ?_)
    refine lv_aload_n hx hb dX8_settle_16 rfl (lv_at hl 1 rfl) ?_
    refine lv_iload_n hx hb dX8_settle_17 rfl (lv_at hl 2 rfl) ?_
    obtain ⟨r_8, st_9, gr_10, h_11, hf⟩ := bd3_el hf
    refine x_callVi (As := [.int p1]) (rest := []) ⟨hx, hb, hml, hown, hts⟩ (mX8_settles l D cy a0 a1 a2 a3 a4 a5 a6 st gr hi_4 gh_5 rc_6 tx tl rk tb tk at_ ltr on_ tw th nu p1 r_8 st_9 gr_10 h_11) (cwV 1 hts (gcV_X8_settles hbg wm_21_0) rfl rfl rfl kdX8_settles ⟨Nat.le_of_ble_eq_true rfl, Nat.le_of_ble_eq_true rfl⟩) (w1 := []) (w2 := []) (w' := wX8 cy a0 a1 a2 a3 a4 a5 a6 st_9 gr_10 hi_4 gh_5 rc_6 tx tl rk tb tk at_ ltr on_ tw th nu) (List.append_nil _) (List.append_nil _) hP hK hD hN hS hA (q0 := 0) rfl rfl rfl rfl hl rfl (Nat.le_of_ble_eq_true rfl) dX8_settle_18 ⟨Nat.zero_le _, Nat.zero_le _⟩ (fun H locs hP hD hS => ?_)
    have hf := Option.some.inj hf
    cases hf
    exact x_iret hx hb hr hlocks hK hP hD hS dX8_settle_21
  · have hf := x_f c_3 hf
    refine lv_iload_n hx hb dX8_settle_10 rfl (lv_at hl 0 rfl) ?_
    have hf := Option.some.inj hf
    cases hf
    exact x_iret hx hb hr hlocks hK hP hD hS dX8_settle_11
theorem kdX8_dayEnds : yX8_dayEnds.cls = RX8 ∧ yX8_dayEnds.cls ≠ "java/lang/invoke/MethodHandle" ∧ yX8_dayEnds.cls ≠ "java/lang/invoke/VarHandle" ∧ (parseMethodDescriptor yX8_dayEnds.desc).map (fun d => d.parameters.length) = some 1 := by decide +kernel
def rmX8_dayEnds : Room := { frames := 0, cells := 0, slots := 0, locals := 0 }
set_option maxHeartbeats 4000000 in
set_option maxRecDepth 100000 in
theorem mX8_dayEnds (l : Launch) (D : va_G) (cy : Nat → ClassId) (a0 a1 a2 a3 a4 a5 a6 : Nat) (st : Nat → Int32) (gr : Nat → Int64) (hi : Nat → Int32) (gh : Nat → Int64) (rc : Int32) (tx : Nat → Int32) (tl : Int32) (rk : Nat → Int32) (tb : Int32) (tk : Int64) (at_ : Int32) (ltr : Int32) (on_ : Int32) (tw : Int32) (th : Int32) (nu : Int32) (p1 : Int32) (r : Int32) (tb' : Int32) (tk' : Int64) (hf : fX8_dayEnds st tb tk p1 = some (r, tb', tk')) : xMi l D cy yX8_dayEnds aX8_dayEnds rmX8_dayEnds ([.ref a0, .int p1] : List Value) (wX8 cy a0 a1 a2 a3 a4 a5 a6 st gr hi gh rc tx tl rk tb tk at_ ltr on_ tw th nu) (wX8 cy a0 a1 a2 a3 a4 a5 a6 st gr hi gh rc tx tl rk tb' tk' at_ ltr on_ tw th nu) r := by
  intro hz
  refine x_start (Qc := xQi D cy _ r) (cc := cX8_dayEnds) (maxL := 8) (ret := (some .int)) (by decide) rfl (Nat.le_of_ble_eq_true rfl) (lv := [(0, .ref a0), (1, .int p1)]) rfl ?_
  intro p e s m below meth c ls A hx hb hr hml hown hts hlocks hK hP hD hS hA hN hl
  have hown : s.vm.findClass RX8 = some m.cls := hown
  have hbg : ∀ w ∈ wsL_law, w ∈ aX8_dayEnds := fun w h => List.mem_cons_of_mem _ h
  have wd0 : (Cond.fieldLink RX8 144 "ClientMoneyBookModel" "thoughtBalance" "I").before ([.ref a0, .int p1] : List Value).toArray s = true := hts _ (List.mem_cons_of_mem _ wm_23_17)
  have wd1 : (Cond.fieldLink RX8 7 "ClientMoneyBookModel" "state" "[I").before ([.ref a0, .int p1] : List Value).toArray s = true := hts _ (List.mem_cons_of_mem _ wm_4_9)
  have wd2 : (Cond.fieldLink RX8 147 "ClientMoneyBookModel" "thoughtCount" "J").before ([.ref a0, .int p1] : List Value).toArray s = true := hts _ (List.mem_cons_of_mem _ wm_23_18)
  have wd3 : (Cond.constant RX8 71 (1000000000)).before ([.ref a0, .int p1] : List Value).toArray s = true := hts _ (List.mem_cons_of_mem _ wm_6_23)
  have wd4 : (Cond.constantLong RX8 151 (3650000)).before ([.ref a0, .int p1] : List Value).toArray s = true := hts _ (List.mem_cons_of_mem _ wm_24_3)
  have iX8 : ∀ w ∈ u_ws RX8 TX8 16, w ∈ aX8_dayEnds := fun w h => List.mem_cons_of_mem _ (inlX8 w h)
  unfold fX8_dayEnds at hf
  refine lv_aload_n hx hb dX8_dayEnds_0 rfl (lv_at hl 0 rfl) ?_
  refine x_get hx hb (C := RX8) (T := TX8) (N := 16) (ci := 8) hts iX8 hown hK hP 0 rfl rfl 8 (by decide) wd0 rfl (.int tb) rfl dX8_dayEnds_1 ?_
  refine lv_aload_n hx hb dX8_dayEnds_4 rfl (lv_at hl 0 rfl) ?_
  refine x_get hx hb (C := RX8) (T := TX8) (N := 16) (ci := 8) hts iX8 hown hK hP 0 rfl rfl 0 (by decide) wd1 rfl (.ref a1) rfl dX8_dayEnds_5 ?_
  refine lv_iconst (v := 1) hx hb dX8_dayEnds_8 (by decide) ?_
  obtain ⟨hi_1, hf⟩ := ckI_el hf
  refine va_iald hx hb hK hP 1 1 rfl rfl hi_1 dX8_dayEnds_9 ?_
  refine lv_icmp_ge (tgt := 21) hx hb dX8_dayEnds_10 (by decide) (fun c_2 => ?_) (fun c_2 => ?_)
  · have hf := x_t c_2 hf
    refine lv_aload_n hx hb dX8_dayEnds_21 rfl (lv_at hl 0 rfl) ?_
    refine x_get hx hb (C := RX8) (T := TX8) (N := 16) (ci := 8) hts iX8 hown hK hP 0 rfl rfl 0 (by decide) wd1 rfl (.ref a1) rfl dX8_dayEnds_22 ?_
    refine lv_iconst (v := 1) hx hb dX8_dayEnds_25 (by decide) ?_
    obtain ⟨hi_3, hf⟩ := ckI_el hf
    refine va_iald hx hb hK hP 1 1 rfl rfl hi_3 dX8_dayEnds_26 ?_
    refine lv_i2l (v := (st (1 : Int32).toNatClampNeg).toInt64) hx hb dX8_dayEnds_27 rfl ?_
    obtain ⟨x2_4, ex2_4, hf⟩ := lt_el hf
    refine x_topl ex2_4 ?_
    refine lv_lstore_n (lv' := [(2, .long x2_4), (0, .ref a0), (1, .int p1)]) hx hb dX8_dayEnds_28 rfl hl (by decide) rfl (fun ls hl => ?_)
    refine lv_aload_n hx hb dX8_dayEnds_29 rfl (lv_at hl 1 rfl) ?_
    refine lv_dup hx hb dX8_dayEnds_30 rfl ?_
    refine x_get hx hb (C := RX8) (T := TX8) (N := 16) (ci := 8) hts iX8 hown hK hP 0 rfl rfl 9 (by decide) wd2 rfl (.long tk) rfl dX8_dayEnds_31 ?_
    refine lv_aload_n hx hb dX8_dayEnds_34 rfl (lv_at hl 1 rfl) ?_
    refine x_get hx hb (C := RX8) (T := TX8) (N := 16) (ci := 8) hts iX8 hown hK hP 0 rfl rfl 0 (by decide) wd1 rfl (.ref a1) rfl dX8_dayEnds_35 ?_
    refine lv_iconst (v := 2) hx hb dX8_dayEnds_38 (by decide) ?_
    obtain ⟨hi_5, hf⟩ := ckI_el hf
    refine va_iald hx hb hK hP 1 1 rfl rfl hi_5 dX8_dayEnds_39 ?_
    refine lv_i2l (v := (st (2 : Int32).toNatClampNeg).toInt64) hx hb dX8_dayEnds_40 rfl ?_
    refine lv_lload_n hx hb dX8_dayEnds_41 rfl (lv_at hl 0 rfl) ?_
    refine lv_lmul hx hb dX8_dayEnds_42 ?_
    refine lv_aload_n hx hb dX8_dayEnds_43 rfl (lv_at hl 1 rfl) ?_
    refine x_get hx hb (C := RX8) (T := TX8) (N := 16) (ci := 8) hts iX8 hown hK hP 0 rfl rfl 0 (by decide) wd1 rfl (.ref a1) rfl dX8_dayEnds_44 ?_
    refine lv_iconst (v := 3) hx hb dX8_dayEnds_47 (by decide) ?_
    obtain ⟨hi_6, hf⟩ := ckI_el hf
    refine va_iald hx hb hK hP 1 1 rfl rfl hi_6 dX8_dayEnds_48 ?_
    refine lv_i2l (v := (st (3 : Int32).toNatClampNeg).toInt64) hx hb dX8_dayEnds_49 rfl ?_
    refine lv_aload_n hx hb dX8_dayEnds_50 rfl (lv_at hl 1 rfl) ?_
    refine x_get hx hb (C := RX8) (T := TX8) (N := 16) (ci := 8) hts iX8 hown hK hP 0 rfl rfl 8 (by decide) wd0 rfl (.int tb) rfl dX8_dayEnds_51 ?_
    refine lv_i2l (v := tb.toInt64) hx hb dX8_dayEnds_54 rfl ?_
    refine lv_lload_n hx hb dX8_dayEnds_55 rfl (lv_at hl 0 rfl) ?_
    refine lv_lsub hx hb dX8_dayEnds_56 ?_
    refine lv_lmul hx hb dX8_dayEnds_57 ?_
    refine lv_ladd hx hb dX8_dayEnds_58 ?_
    refine lv_ladd hx hb dX8_dayEnds_59 ?_
    obtain ⟨tk_7, etk_7, hf⟩ := lt_el hf
    refine x_topl etk_7 ?_
    refine x_put hx hb (C := RX8) (T := TX8) (N := 16) (ci := 8) hts iX8 tyX8 tyX8_ok nmX8 hown hK hP hD hS 0 rfl rfl 9 (by decide) wd2 rfl rfl (ty := .long) rfl rfl rfl (Nat.le_of_ble_eq_true rfl) (w' := wX8 cy a0 a1 a2 a3 a4 a5 a6 st gr hi gh rc tx tl rk tb tk_7 at_ ltr on_ tw th nu) rfl dX8_dayEnds_60 (fun H locs hP hD hS => ?_)
    refine lv_iload_n hx hb dX8_dayEnds_63 rfl (lv_at hl 2 rfl) ?_
    refine lv_bipush (v := 30) hx hb dX8_dayEnds_64 (by decide) ?_
    refine lv_irem hx hb dX8_dayEnds_66 (by decide) ?_
    refine lv_if_eq (tgt := 72) hx hb dX8_dayEnds_67 (by decide) (fun c_8 => ?_) (fun c_8 => ?_)
    · have hf := x_t c_8 hf
      refine lv_ldc hx hb hown wd3 dX8_dayEnds_72 ?_
      refine lv_aload_n hx hb dX8_dayEnds_74 rfl (lv_at hl 1 rfl) ?_
      refine x_get hx hb (C := RX8) (T := TX8) (N := 16) (ci := 8) hts iX8 hown hK hP 0 rfl rfl 8 (by decide) wd0 rfl (.int tb) rfl dX8_dayEnds_75 ?_
      refine lv_isub hx hb dX8_dayEnds_78 ?_
      refine lv_i2l (v := (1000000000 - tb).toInt64) hx hb dX8_dayEnds_79 rfl ?_
      obtain ⟨x4_9, ex4_9, hf⟩ := lt_el hf
      refine x_topl ex4_9 ?_
      refine lv_lstore (lv' := [(4, .long x4_9), (2, .long x2_4), (0, .ref a0), (1, .int p1)]) hx hb dX8_dayEnds_80 hl (by decide) rfl (fun ls hl => ?_)
      refine lv_aload_n hx hb dX8_dayEnds_82 rfl (lv_at hl 2 rfl) ?_
      refine x_get hx hb (C := RX8) (T := TX8) (N := 16) (ci := 8) hts iX8 hown hK hP 0 rfl rfl 9 (by decide) wd2 rfl (.long tk_7) rfl dX8_dayEnds_83 ?_
      refine lv_ldc2 hx hb hown wd4 dX8_dayEnds_86 ?_
      refine lv_ldiv hx hb dX8_dayEnds_89 (by decide) ?_
      refine lv_lload hx hb dX8_dayEnds_90 (lv_at hl 0 rfl) ?_
      refine W.lcmp hx hb dX8_dayEnds_92 ?_
      refine lv_if_ge (tgt := 107) hx hb dX8_dayEnds_93 (by decide) (fun c_10 => ?_) (fun c_10 => ?_)
      · have c_10 := (lg_cmp_ge _ _).mp c_10
        have hf := x_t c_10 hf
        refine lv_lload hx hb dX8_dayEnds_107 (lv_at hl 0 rfl) ?_
        refine lv_lstore (lv' := [(6, .long x4_9), (4, .long x4_9), (2, .long x2_4), (0, .ref a0), (1, .int p1)]) hx hb dX8_dayEnds_109 hl (by decide) rfl (fun ls hl => ?_)
        refine lv_lload hx hb dX8_dayEnds_111 (lv_at hl 0 rfl) ?_
        refine lv_lconst (v := 0) hx hb dX8_dayEnds_113 (by decide) ?_
        refine W.lcmp hx hb dX8_dayEnds_114 ?_
        refine lv_if_eq (tgt := 131) hx hb dX8_dayEnds_115 (by decide) (fun c_11 => ?_) (fun c_11 => ?_)
        · have c_11 := (lg_cmp_eq _ _).mp c_11
          have hf := x_t c_11 hf
          refine lv_iconst (v := 0) hx hb dX8_dayEnds_131 (by decide) ?_
          have hf := Option.some.inj hf
          cases hf
          exact x_iret hx hb hr hlocks hK hP hD hS dX8_dayEnds_132
        · have c_11 := fun q => c_11 ((lg_cmp_eq _ _).mpr q)
          have hf := x_f c_11 hf
          refine lv_lload hx hb dX8_dayEnds_118 (lv_at hl 0 rfl) ?_
          refine lv_aload_n hx hb dX8_dayEnds_120 rfl (lv_at hl 3 rfl) ?_
          refine x_get hx hb (C := RX8) (T := TX8) (N := 16) (ci := 8) hts iX8 hown hK hP 0 rfl rfl 0 (by decide) wd1 rfl (.ref a1) rfl dX8_dayEnds_121 ?_
          refine lv_iconst (v := 4) hx hb dX8_dayEnds_124 (by decide) ?_
          obtain ⟨hi_12, hf⟩ := ckI_el hf
          refine va_iald hx hb hK hP 1 1 rfl rfl hi_12 dX8_dayEnds_125 ?_
          refine lv_i2l (v := (st (4 : Int32).toNatClampNeg).toInt64) hx hb dX8_dayEnds_126 rfl ?_
          refine W.lcmp hx hb dX8_dayEnds_127 ?_
          refine lv_if_ge (tgt := 133) hx hb dX8_dayEnds_128 (by decide) (fun c_13 => ?_) (fun c_13 => ?_)
          · have c_13 := (lg_cmp_ge _ _).mp c_13
            have hf := x_t c_13 hf
            refine lv_aload_n hx hb dX8_dayEnds_133 rfl (lv_at hl 3 rfl) ?_
            refine lv_dup hx hb dX8_dayEnds_134 rfl ?_
            refine x_get hx hb (C := RX8) (T := TX8) (N := 16) (ci := 8) hts iX8 hown hK hP 0 rfl rfl 8 (by decide) wd0 rfl (.int tb) rfl dX8_dayEnds_135 ?_
            refine lv_lload hx hb dX8_dayEnds_138 (lv_at hl 0 rfl) ?_
            refine lv_l2i (v := x4_9.toInt32) hx hb dX8_dayEnds_140 rfl ?_
            refine lv_iadd hx hb dX8_dayEnds_141 ?_
            obtain ⟨tb_14, etb_14, hf⟩ := lt_el hf
            refine x_topi etb_14 ?_
            refine x_put hx hb (C := RX8) (T := TX8) (N := 16) (ci := 8) hts iX8 tyX8 tyX8_ok nmX8 hown hK hP hD hS 0 rfl rfl 8 (by decide) wd0 rfl rfl (ty := .int) rfl rfl rfl (Nat.le_of_ble_eq_true rfl) (w' := wX8 cy a0 a1 a2 a3 a4 a5 a6 st gr hi gh rc tx tl rk tb_14 tk_7 at_ ltr on_ tw th nu) rfl dX8_dayEnds_142 (fun H locs hP hD hS => ?_)
            refine lv_aload_n hx hb dX8_dayEnds_145 rfl (lv_at hl 3 rfl) ?_
            refine lv_dup hx hb dX8_dayEnds_146 rfl ?_
            refine x_get hx hb (C := RX8) (T := TX8) (N := 16) (ci := 8) hts iX8 hown hK hP 0 rfl rfl 9 (by decide) wd2 rfl (.long tk_7) rfl dX8_dayEnds_147 ?_
            refine lv_ldc2 hx hb hown wd4 dX8_dayEnds_150 ?_
            refine lv_lload hx hb dX8_dayEnds_153 (lv_at hl 0 rfl) ?_
            refine lv_lmul hx hb dX8_dayEnds_155 ?_
            refine lv_lsub hx hb dX8_dayEnds_156 ?_
            obtain ⟨tk_15, etk_15, hf⟩ := lt_el hf
            refine x_topl etk_15 ?_
            refine x_put hx hb (C := RX8) (T := TX8) (N := 16) (ci := 8) hts iX8 tyX8 tyX8_ok nmX8 hown hK hP hD hS 0 rfl rfl 9 (by decide) wd2 rfl rfl (ty := .long) rfl rfl rfl (Nat.le_of_ble_eq_true rfl) (w' := wX8 cy a0 a1 a2 a3 a4 a5 a6 st gr hi gh rc tx tl rk tb_14 tk_15 at_ ltr on_ tw th nu) rfl dX8_dayEnds_157 (fun H locs hP hD hS => ?_)
            refine lv_lload hx hb dX8_dayEnds_160 (lv_at hl 0 rfl) ?_
            refine lv_l2i (v := x4_9.toInt32) hx hb dX8_dayEnds_162 rfl ?_
            have hf := Option.some.inj hf
            cases hf
            exact x_iret hx hb hr hlocks hK hP hD hS dX8_dayEnds_163
          · have c_13 := fun q => c_13 ((lg_cmp_ge _ _).mpr q)
            have hf := x_f c_13 hf
            refine lv_iconst (v := 0) hx hb dX8_dayEnds_131 (by decide) ?_
            have hf := Option.some.inj hf
            cases hf
            exact x_iret hx hb hr hlocks hK hP hD hS dX8_dayEnds_132
      · have c_10 := fun q => c_10 ((lg_cmp_ge _ _).mpr q)
        have hf := x_f c_10 hf
        refine lv_aload_n hx hb dX8_dayEnds_96 rfl (lv_at hl 2 rfl) ?_
        refine x_get hx hb (C := RX8) (T := TX8) (N := 16) (ci := 8) hts iX8 hown hK hP 0 rfl rfl 9 (by decide) wd2 rfl (.long tk_7) rfl dX8_dayEnds_97 ?_
        refine lv_ldc2 hx hb hown wd4 dX8_dayEnds_100 ?_
        refine lv_ldiv hx hb dX8_dayEnds_103 (by decide) ?_
        refine lv_goto (tgt := 109) hx hb dX8_dayEnds_104 (by decide) ?_
        obtain ⟨x6_16, ex6_16, hf⟩ := lt_el hf
        refine x_topl ex6_16 ?_
        refine lv_lstore (lv' := [(6, .long x6_16), (4, .long x4_9), (2, .long x2_4), (0, .ref a0), (1, .int p1)]) hx hb dX8_dayEnds_109 hl (by decide) rfl (fun ls hl => ?_)
        refine lv_lload hx hb dX8_dayEnds_111 (lv_at hl 0 rfl) ?_
        refine lv_lconst (v := 0) hx hb dX8_dayEnds_113 (by decide) ?_
        refine W.lcmp hx hb dX8_dayEnds_114 ?_
        refine lv_if_eq (tgt := 131) hx hb dX8_dayEnds_115 (by decide) (fun c_17 => ?_) (fun c_17 => ?_)
        · have c_17 := (lg_cmp_eq _ _).mp c_17
          have hf := x_t c_17 hf
          refine lv_iconst (v := 0) hx hb dX8_dayEnds_131 (by decide) ?_
          have hf := Option.some.inj hf
          cases hf
          exact x_iret hx hb hr hlocks hK hP hD hS dX8_dayEnds_132
        · have c_17 := fun q => c_17 ((lg_cmp_eq _ _).mpr q)
          have hf := x_f c_17 hf
          refine lv_lload hx hb dX8_dayEnds_118 (lv_at hl 0 rfl) ?_
          refine lv_aload_n hx hb dX8_dayEnds_120 rfl (lv_at hl 3 rfl) ?_
          refine x_get hx hb (C := RX8) (T := TX8) (N := 16) (ci := 8) hts iX8 hown hK hP 0 rfl rfl 0 (by decide) wd1 rfl (.ref a1) rfl dX8_dayEnds_121 ?_
          refine lv_iconst (v := 4) hx hb dX8_dayEnds_124 (by decide) ?_
          obtain ⟨hi_18, hf⟩ := ckI_el hf
          refine va_iald hx hb hK hP 1 1 rfl rfl hi_18 dX8_dayEnds_125 ?_
          refine lv_i2l (v := (st (4 : Int32).toNatClampNeg).toInt64) hx hb dX8_dayEnds_126 rfl ?_
          refine W.lcmp hx hb dX8_dayEnds_127 ?_
          refine lv_if_ge (tgt := 133) hx hb dX8_dayEnds_128 (by decide) (fun c_19 => ?_) (fun c_19 => ?_)
          · have c_19 := (lg_cmp_ge _ _).mp c_19
            have hf := x_t c_19 hf
            refine lv_aload_n hx hb dX8_dayEnds_133 rfl (lv_at hl 3 rfl) ?_
            refine lv_dup hx hb dX8_dayEnds_134 rfl ?_
            refine x_get hx hb (C := RX8) (T := TX8) (N := 16) (ci := 8) hts iX8 hown hK hP 0 rfl rfl 8 (by decide) wd0 rfl (.int tb) rfl dX8_dayEnds_135 ?_
            refine lv_lload hx hb dX8_dayEnds_138 (lv_at hl 0 rfl) ?_
            refine lv_l2i (v := x6_16.toInt32) hx hb dX8_dayEnds_140 rfl ?_
            refine lv_iadd hx hb dX8_dayEnds_141 ?_
            obtain ⟨tb_20, etb_20, hf⟩ := lt_el hf
            refine x_topi etb_20 ?_
            refine x_put hx hb (C := RX8) (T := TX8) (N := 16) (ci := 8) hts iX8 tyX8 tyX8_ok nmX8 hown hK hP hD hS 0 rfl rfl 8 (by decide) wd0 rfl rfl (ty := .int) rfl rfl rfl (Nat.le_of_ble_eq_true rfl) (w' := wX8 cy a0 a1 a2 a3 a4 a5 a6 st gr hi gh rc tx tl rk tb_20 tk_7 at_ ltr on_ tw th nu) rfl dX8_dayEnds_142 (fun H locs hP hD hS => ?_)
            refine lv_aload_n hx hb dX8_dayEnds_145 rfl (lv_at hl 3 rfl) ?_
            refine lv_dup hx hb dX8_dayEnds_146 rfl ?_
            refine x_get hx hb (C := RX8) (T := TX8) (N := 16) (ci := 8) hts iX8 hown hK hP 0 rfl rfl 9 (by decide) wd2 rfl (.long tk_7) rfl dX8_dayEnds_147 ?_
            refine lv_ldc2 hx hb hown wd4 dX8_dayEnds_150 ?_
            refine lv_lload hx hb dX8_dayEnds_153 (lv_at hl 0 rfl) ?_
            refine lv_lmul hx hb dX8_dayEnds_155 ?_
            refine lv_lsub hx hb dX8_dayEnds_156 ?_
            obtain ⟨tk_21, etk_21, hf⟩ := lt_el hf
            refine x_topl etk_21 ?_
            refine x_put hx hb (C := RX8) (T := TX8) (N := 16) (ci := 8) hts iX8 tyX8 tyX8_ok nmX8 hown hK hP hD hS 0 rfl rfl 9 (by decide) wd2 rfl rfl (ty := .long) rfl rfl rfl (Nat.le_of_ble_eq_true rfl) (w' := wX8 cy a0 a1 a2 a3 a4 a5 a6 st gr hi gh rc tx tl rk tb_20 tk_21 at_ ltr on_ tw th nu) rfl dX8_dayEnds_157 (fun H locs hP hD hS => ?_)
            refine lv_lload hx hb dX8_dayEnds_160 (lv_at hl 0 rfl) ?_
            refine lv_l2i (v := x6_16.toInt32) hx hb dX8_dayEnds_162 rfl ?_
            have hf := Option.some.inj hf
            cases hf
            exact x_iret hx hb hr hlocks hK hP hD hS dX8_dayEnds_163
          · have c_19 := fun q => c_19 ((lg_cmp_ge _ _).mpr q)
            have hf := x_f c_19 hf
            refine lv_iconst (v := 0) hx hb dX8_dayEnds_131 (by decide) ?_
            have hf := Option.some.inj hf
            cases hf
            exact x_iret hx hb hr hlocks hK hP hD hS dX8_dayEnds_132
    · have hf := x_f c_8 hf
      refine lv_iconst (v := 0) hx hb dX8_dayEnds_70 (by decide) ?_
      have hf := Option.some.inj hf
      cases hf
      exact x_iret hx hb hr hlocks hK hP hD hS dX8_dayEnds_71
  · have hf := x_f c_2 hf
    refine lv_aload_n hx hb dX8_dayEnds_13 rfl (lv_at hl 0 rfl) ?_
    refine x_get hx hb (C := RX8) (T := TX8) (N := 16) (ci := 8) hts iX8 hown hK hP 0 rfl rfl 8 (by decide) wd0 rfl (.int tb) rfl dX8_dayEnds_14 ?_
    refine lv_i2l (v := tb.toInt64) hx hb dX8_dayEnds_17 rfl ?_
    refine lv_goto (tgt := 28) hx hb dX8_dayEnds_18 (by decide) ?_
    refine lv_lstore_n (lv' := [(2, .long tb.toInt64), (0, .ref a0), (1, .int p1)]) hx hb dX8_dayEnds_28 rfl hl (by decide) rfl (fun ls hl => ?_)
    refine lv_aload_n hx hb dX8_dayEnds_29 rfl (lv_at hl 1 rfl) ?_
    refine lv_dup hx hb dX8_dayEnds_30 rfl ?_
    refine x_get hx hb (C := RX8) (T := TX8) (N := 16) (ci := 8) hts iX8 hown hK hP 0 rfl rfl 9 (by decide) wd2 rfl (.long tk) rfl dX8_dayEnds_31 ?_
    refine lv_aload_n hx hb dX8_dayEnds_34 rfl (lv_at hl 1 rfl) ?_
    refine x_get hx hb (C := RX8) (T := TX8) (N := 16) (ci := 8) hts iX8 hown hK hP 0 rfl rfl 0 (by decide) wd1 rfl (.ref a1) rfl dX8_dayEnds_35 ?_
    refine lv_iconst (v := 2) hx hb dX8_dayEnds_38 (by decide) ?_
    obtain ⟨hi_22, hf⟩ := ckI_el hf
    refine va_iald hx hb hK hP 1 1 rfl rfl hi_22 dX8_dayEnds_39 ?_
    refine lv_i2l (v := (st (2 : Int32).toNatClampNeg).toInt64) hx hb dX8_dayEnds_40 rfl ?_
    refine lv_lload_n hx hb dX8_dayEnds_41 rfl (lv_at hl 0 rfl) ?_
    refine lv_lmul hx hb dX8_dayEnds_42 ?_
    refine lv_aload_n hx hb dX8_dayEnds_43 rfl (lv_at hl 1 rfl) ?_
    refine x_get hx hb (C := RX8) (T := TX8) (N := 16) (ci := 8) hts iX8 hown hK hP 0 rfl rfl 0 (by decide) wd1 rfl (.ref a1) rfl dX8_dayEnds_44 ?_
    refine lv_iconst (v := 3) hx hb dX8_dayEnds_47 (by decide) ?_
    obtain ⟨hi_23, hf⟩ := ckI_el hf
    refine va_iald hx hb hK hP 1 1 rfl rfl hi_23 dX8_dayEnds_48 ?_
    refine lv_i2l (v := (st (3 : Int32).toNatClampNeg).toInt64) hx hb dX8_dayEnds_49 rfl ?_
    refine lv_aload_n hx hb dX8_dayEnds_50 rfl (lv_at hl 1 rfl) ?_
    refine x_get hx hb (C := RX8) (T := TX8) (N := 16) (ci := 8) hts iX8 hown hK hP 0 rfl rfl 8 (by decide) wd0 rfl (.int tb) rfl dX8_dayEnds_51 ?_
    refine lv_i2l (v := tb.toInt64) hx hb dX8_dayEnds_54 rfl ?_
    refine lv_lload_n hx hb dX8_dayEnds_55 rfl (lv_at hl 0 rfl) ?_
    refine lv_lsub hx hb dX8_dayEnds_56 ?_
    refine lv_lmul hx hb dX8_dayEnds_57 ?_
    refine lv_ladd hx hb dX8_dayEnds_58 ?_
    refine lv_ladd hx hb dX8_dayEnds_59 ?_
    obtain ⟨tk_24, etk_24, hf⟩ := lt_el hf
    refine x_topl etk_24 ?_
    refine x_put hx hb (C := RX8) (T := TX8) (N := 16) (ci := 8) hts iX8 tyX8 tyX8_ok nmX8 hown hK hP hD hS 0 rfl rfl 9 (by decide) wd2 rfl rfl (ty := .long) rfl rfl rfl (Nat.le_of_ble_eq_true rfl) (w' := wX8 cy a0 a1 a2 a3 a4 a5 a6 st gr hi gh rc tx tl rk tb tk_24 at_ ltr on_ tw th nu) rfl dX8_dayEnds_60 (fun H locs hP hD hS => ?_)
    refine lv_iload_n hx hb dX8_dayEnds_63 rfl (lv_at hl 2 rfl) ?_
    refine lv_bipush (v := 30) hx hb dX8_dayEnds_64 (by decide) ?_
    refine lv_irem hx hb dX8_dayEnds_66 (by decide) ?_
    refine lv_if_eq (tgt := 72) hx hb dX8_dayEnds_67 (by decide) (fun c_25 => ?_) (fun c_25 => ?_)
    · have hf := x_t c_25 hf
      refine lv_ldc hx hb hown wd3 dX8_dayEnds_72 ?_
      refine lv_aload_n hx hb dX8_dayEnds_74 rfl (lv_at hl 1 rfl) ?_
      refine x_get hx hb (C := RX8) (T := TX8) (N := 16) (ci := 8) hts iX8 hown hK hP 0 rfl rfl 8 (by decide) wd0 rfl (.int tb) rfl dX8_dayEnds_75 ?_
      refine lv_isub hx hb dX8_dayEnds_78 ?_
      refine lv_i2l (v := (1000000000 - tb).toInt64) hx hb dX8_dayEnds_79 rfl ?_
      obtain ⟨x4_26, ex4_26, hf⟩ := lt_el hf
      refine x_topl ex4_26 ?_
      refine lv_lstore (lv' := [(4, .long x4_26), (2, .long tb.toInt64), (0, .ref a0), (1, .int p1)]) hx hb dX8_dayEnds_80 hl (by decide) rfl (fun ls hl => ?_)
      refine lv_aload_n hx hb dX8_dayEnds_82 rfl (lv_at hl 2 rfl) ?_
      refine x_get hx hb (C := RX8) (T := TX8) (N := 16) (ci := 8) hts iX8 hown hK hP 0 rfl rfl 9 (by decide) wd2 rfl (.long tk_24) rfl dX8_dayEnds_83 ?_
      refine lv_ldc2 hx hb hown wd4 dX8_dayEnds_86 ?_
      refine lv_ldiv hx hb dX8_dayEnds_89 (by decide) ?_
      refine lv_lload hx hb dX8_dayEnds_90 (lv_at hl 0 rfl) ?_
      refine W.lcmp hx hb dX8_dayEnds_92 ?_
      refine lv_if_ge (tgt := 107) hx hb dX8_dayEnds_93 (by decide) (fun c_27 => ?_) (fun c_27 => ?_)
      · have c_27 := (lg_cmp_ge _ _).mp c_27
        have hf := x_t c_27 hf
        refine lv_lload hx hb dX8_dayEnds_107 (lv_at hl 0 rfl) ?_
        refine lv_lstore (lv' := [(6, .long x4_26), (4, .long x4_26), (2, .long tb.toInt64), (0, .ref a0), (1, .int p1)]) hx hb dX8_dayEnds_109 hl (by decide) rfl (fun ls hl => ?_)
        refine lv_lload hx hb dX8_dayEnds_111 (lv_at hl 0 rfl) ?_
        refine lv_lconst (v := 0) hx hb dX8_dayEnds_113 (by decide) ?_
        refine W.lcmp hx hb dX8_dayEnds_114 ?_
        refine lv_if_eq (tgt := 131) hx hb dX8_dayEnds_115 (by decide) (fun c_28 => ?_) (fun c_28 => ?_)
        · have c_28 := (lg_cmp_eq _ _).mp c_28
          have hf := x_t c_28 hf
          refine lv_iconst (v := 0) hx hb dX8_dayEnds_131 (by decide) ?_
          have hf := Option.some.inj hf
          cases hf
          exact x_iret hx hb hr hlocks hK hP hD hS dX8_dayEnds_132
        · have c_28 := fun q => c_28 ((lg_cmp_eq _ _).mpr q)
          have hf := x_f c_28 hf
          refine lv_lload hx hb dX8_dayEnds_118 (lv_at hl 0 rfl) ?_
          refine lv_aload_n hx hb dX8_dayEnds_120 rfl (lv_at hl 3 rfl) ?_
          refine x_get hx hb (C := RX8) (T := TX8) (N := 16) (ci := 8) hts iX8 hown hK hP 0 rfl rfl 0 (by decide) wd1 rfl (.ref a1) rfl dX8_dayEnds_121 ?_
          refine lv_iconst (v := 4) hx hb dX8_dayEnds_124 (by decide) ?_
          obtain ⟨hi_29, hf⟩ := ckI_el hf
          refine va_iald hx hb hK hP 1 1 rfl rfl hi_29 dX8_dayEnds_125 ?_
          refine lv_i2l (v := (st (4 : Int32).toNatClampNeg).toInt64) hx hb dX8_dayEnds_126 rfl ?_
          refine W.lcmp hx hb dX8_dayEnds_127 ?_
          refine lv_if_ge (tgt := 133) hx hb dX8_dayEnds_128 (by decide) (fun c_30 => ?_) (fun c_30 => ?_)
          · have c_30 := (lg_cmp_ge _ _).mp c_30
            have hf := x_t c_30 hf
            refine lv_aload_n hx hb dX8_dayEnds_133 rfl (lv_at hl 3 rfl) ?_
            refine lv_dup hx hb dX8_dayEnds_134 rfl ?_
            refine x_get hx hb (C := RX8) (T := TX8) (N := 16) (ci := 8) hts iX8 hown hK hP 0 rfl rfl 8 (by decide) wd0 rfl (.int tb) rfl dX8_dayEnds_135 ?_
            refine lv_lload hx hb dX8_dayEnds_138 (lv_at hl 0 rfl) ?_
            refine lv_l2i (v := x4_26.toInt32) hx hb dX8_dayEnds_140 rfl ?_
            refine lv_iadd hx hb dX8_dayEnds_141 ?_
            obtain ⟨tb_31, etb_31, hf⟩ := lt_el hf
            refine x_topi etb_31 ?_
            refine x_put hx hb (C := RX8) (T := TX8) (N := 16) (ci := 8) hts iX8 tyX8 tyX8_ok nmX8 hown hK hP hD hS 0 rfl rfl 8 (by decide) wd0 rfl rfl (ty := .int) rfl rfl rfl (Nat.le_of_ble_eq_true rfl) (w' := wX8 cy a0 a1 a2 a3 a4 a5 a6 st gr hi gh rc tx tl rk tb_31 tk_24 at_ ltr on_ tw th nu) rfl dX8_dayEnds_142 (fun H locs hP hD hS => ?_)
            refine lv_aload_n hx hb dX8_dayEnds_145 rfl (lv_at hl 3 rfl) ?_
            refine lv_dup hx hb dX8_dayEnds_146 rfl ?_
            refine x_get hx hb (C := RX8) (T := TX8) (N := 16) (ci := 8) hts iX8 hown hK hP 0 rfl rfl 9 (by decide) wd2 rfl (.long tk_24) rfl dX8_dayEnds_147 ?_
            refine lv_ldc2 hx hb hown wd4 dX8_dayEnds_150 ?_
            refine lv_lload hx hb dX8_dayEnds_153 (lv_at hl 0 rfl) ?_
            refine lv_lmul hx hb dX8_dayEnds_155 ?_
            refine lv_lsub hx hb dX8_dayEnds_156 ?_
            obtain ⟨tk_32, etk_32, hf⟩ := lt_el hf
            refine x_topl etk_32 ?_
            refine x_put hx hb (C := RX8) (T := TX8) (N := 16) (ci := 8) hts iX8 tyX8 tyX8_ok nmX8 hown hK hP hD hS 0 rfl rfl 9 (by decide) wd2 rfl rfl (ty := .long) rfl rfl rfl (Nat.le_of_ble_eq_true rfl) (w' := wX8 cy a0 a1 a2 a3 a4 a5 a6 st gr hi gh rc tx tl rk tb_31 tk_32 at_ ltr on_ tw th nu) rfl dX8_dayEnds_157 (fun H locs hP hD hS => ?_)
            refine lv_lload hx hb dX8_dayEnds_160 (lv_at hl 0 rfl) ?_
            refine lv_l2i (v := x4_26.toInt32) hx hb dX8_dayEnds_162 rfl ?_
            have hf := Option.some.inj hf
            cases hf
            exact x_iret hx hb hr hlocks hK hP hD hS dX8_dayEnds_163
          · have c_30 := fun q => c_30 ((lg_cmp_ge _ _).mpr q)
            have hf := x_f c_30 hf
            refine lv_iconst (v := 0) hx hb dX8_dayEnds_131 (by decide) ?_
            have hf := Option.some.inj hf
            cases hf
            exact x_iret hx hb hr hlocks hK hP hD hS dX8_dayEnds_132
      · have c_27 := fun q => c_27 ((lg_cmp_ge _ _).mpr q)
        have hf := x_f c_27 hf
        refine lv_aload_n hx hb dX8_dayEnds_96 rfl (lv_at hl 2 rfl) ?_
        refine x_get hx hb (C := RX8) (T := TX8) (N := 16) (ci := 8) hts iX8 hown hK hP 0 rfl rfl 9 (by decide) wd2 rfl (.long tk_24) rfl dX8_dayEnds_97 ?_
        refine lv_ldc2 hx hb hown wd4 dX8_dayEnds_100 ?_
        refine lv_ldiv hx hb dX8_dayEnds_103 (by decide) ?_
        refine lv_goto (tgt := 109) hx hb dX8_dayEnds_104 (by decide) ?_
        obtain ⟨x6_33, ex6_33, hf⟩ := lt_el hf
        refine x_topl ex6_33 ?_
        refine lv_lstore (lv' := [(6, .long x6_33), (4, .long x4_26), (2, .long tb.toInt64), (0, .ref a0), (1, .int p1)]) hx hb dX8_dayEnds_109 hl (by decide) rfl (fun ls hl => ?_)
        refine lv_lload hx hb dX8_dayEnds_111 (lv_at hl 0 rfl) ?_
        refine lv_lconst (v := 0) hx hb dX8_dayEnds_113 (by decide) ?_
        refine W.lcmp hx hb dX8_dayEnds_114 ?_
        refine lv_if_eq (tgt := 131) hx hb dX8_dayEnds_115 (by decide) (fun c_34 => ?_) (fun c_34 => ?_)
        · have c_34 := (lg_cmp_eq _ _).mp c_34
          have hf := x_t c_34 hf
          refine lv_iconst (v := 0) hx hb dX8_dayEnds_131 (by decide) ?_
          have hf := Option.some.inj hf
          cases hf
          exact x_iret hx hb hr hlocks hK hP hD hS dX8_dayEnds_132
        · have c_34 := fun q => c_34 ((lg_cmp_eq _ _).mpr q)
          have hf := x_f c_34 hf
          refine lv_lload hx hb dX8_dayEnds_118 (lv_at hl 0 rfl) ?_
          refine lv_aload_n hx hb dX8_dayEnds_120 rfl (lv_at hl 3 rfl) ?_
          refine x_get hx hb (C := RX8) (T := TX8) (N := 16) (ci := 8) hts iX8 hown hK hP 0 rfl rfl 0 (by decide) wd1 rfl (.ref a1) rfl dX8_dayEnds_121 ?_
          refine lv_iconst (v := 4) hx hb dX8_dayEnds_124 (by decide) ?_
          obtain ⟨hi_35, hf⟩ := ckI_el hf
          refine va_iald hx hb hK hP 1 1 rfl rfl hi_35 dX8_dayEnds_125 ?_
          refine lv_i2l (v := (st (4 : Int32).toNatClampNeg).toInt64) hx hb dX8_dayEnds_126 rfl ?_
          refine W.lcmp hx hb dX8_dayEnds_127 ?_
          refine lv_if_ge (tgt := 133) hx hb dX8_dayEnds_128 (by decide) (fun c_36 => ?_) (fun c_36 => ?_)
          · have c_36 := (lg_cmp_ge _ _).mp c_36
            have hf := x_t c_36 hf
            refine lv_aload_n hx hb dX8_dayEnds_133 rfl (lv_at hl 3 rfl) ?_
            refine lv_dup hx hb dX8_dayEnds_134 rfl ?_
            refine x_get hx hb (C := RX8) (T := TX8) (N := 16) (ci := 8) hts iX8 hown hK hP 0 rfl rfl 8 (by decide) wd0 rfl (.int tb) rfl dX8_dayEnds_135 ?_
            refine lv_lload hx hb dX8_dayEnds_138 (lv_at hl 0 rfl) ?_
            refine lv_l2i (v := x6_33.toInt32) hx hb dX8_dayEnds_140 rfl ?_
            refine lv_iadd hx hb dX8_dayEnds_141 ?_
            obtain ⟨tb_37, etb_37, hf⟩ := lt_el hf
            refine x_topi etb_37 ?_
            refine x_put hx hb (C := RX8) (T := TX8) (N := 16) (ci := 8) hts iX8 tyX8 tyX8_ok nmX8 hown hK hP hD hS 0 rfl rfl 8 (by decide) wd0 rfl rfl (ty := .int) rfl rfl rfl (Nat.le_of_ble_eq_true rfl) (w' := wX8 cy a0 a1 a2 a3 a4 a5 a6 st gr hi gh rc tx tl rk tb_37 tk_24 at_ ltr on_ tw th nu) rfl dX8_dayEnds_142 (fun H locs hP hD hS => ?_)
            refine lv_aload_n hx hb dX8_dayEnds_145 rfl (lv_at hl 3 rfl) ?_
            refine lv_dup hx hb dX8_dayEnds_146 rfl ?_
            refine x_get hx hb (C := RX8) (T := TX8) (N := 16) (ci := 8) hts iX8 hown hK hP 0 rfl rfl 9 (by decide) wd2 rfl (.long tk_24) rfl dX8_dayEnds_147 ?_
            refine lv_ldc2 hx hb hown wd4 dX8_dayEnds_150 ?_
            refine lv_lload hx hb dX8_dayEnds_153 (lv_at hl 0 rfl) ?_
            refine lv_lmul hx hb dX8_dayEnds_155 ?_
            refine lv_lsub hx hb dX8_dayEnds_156 ?_
            obtain ⟨tk_38, etk_38, hf⟩ := lt_el hf
            refine x_topl etk_38 ?_
            refine x_put hx hb (C := RX8) (T := TX8) (N := 16) (ci := 8) hts iX8 tyX8 tyX8_ok nmX8 hown hK hP hD hS 0 rfl rfl 9 (by decide) wd2 rfl rfl (ty := .long) rfl rfl rfl (Nat.le_of_ble_eq_true rfl) (w' := wX8 cy a0 a1 a2 a3 a4 a5 a6 st gr hi gh rc tx tl rk tb_37 tk_38 at_ ltr on_ tw th nu) rfl dX8_dayEnds_157 (fun H locs hP hD hS => ?_)
            refine lv_lload hx hb dX8_dayEnds_160 (lv_at hl 0 rfl) ?_
            refine lv_l2i (v := x6_33.toInt32) hx hb dX8_dayEnds_162 rfl ?_
            have hf := Option.some.inj hf
            cases hf
            exact x_iret hx hb hr hlocks hK hP hD hS dX8_dayEnds_163
          · have c_36 := fun q => c_36 ((lg_cmp_ge _ _).mpr q)
            have hf := x_f c_36 hf
            refine lv_iconst (v := 0) hx hb dX8_dayEnds_131 (by decide) ?_
            have hf := Option.some.inj hf
            cases hf
            exact x_iret hx hb hr hlocks hK hP hD hS dX8_dayEnds_132
    · have hf := x_f c_25 hf
      refine lv_iconst (v := 0) hx hb dX8_dayEnds_70 (by decide) ?_
      have hf := Option.some.inj hf
      cases hf
      exact x_iret hx hb hr hlocks hK hP hD hS dX8_dayEnds_71
