theorem kdX8_day : yX8_day.cls = RX8 ∧ yX8_day.cls ≠ "java/lang/invoke/MethodHandle" ∧ yX8_day.cls ≠ "java/lang/invoke/VarHandle" ∧ (parseMethodDescriptor yX8_day.desc).map (fun d => d.parameters.length) = some 0 := by decide +kernel
def rmX8_day : Room := { frames := 0, cells := 0, slots := 0, locals := 0 }
set_option maxHeartbeats 4000000 in
set_option maxRecDepth 100000 in
theorem mX8_day (l : Launch) (D : va_G) (cy : Nat → ClassId) (a0 a1 a2 a3 a4 a5 a6 : Nat) (st : Nat → Int32) (gr : Nat → Int64) (hi : Nat → Int32) (gh : Nat → Int64) (rc : Int32) (tx : Nat → Int32) (tl : Int32) (rk : Nat → Int32) (tb : Int32) (tk : Int64) (at_ : Int32) (ltr : Int32) (on_ : Int32) (tw : Int32) (th : Int32) (nu : Int32)  (r : Int32) (hf : fX8_day st = some r) : xMi l D cy yX8_day aX8_day rmX8_day ([.ref a0] : List Value) (wX8 cy a0 a1 a2 a3 a4 a5 a6 st gr hi gh rc tx tl rk tb tk at_ ltr on_ tw th nu) (wX8 cy a0 a1 a2 a3 a4 a5 a6 st gr hi gh rc tx tl rk tb tk at_ ltr on_ tw th nu) r := by
  intro hz
  refine x_start (Qc := xQi D cy _ r) (cc := cX8_day) (maxL := 1) (ret := (some .int)) (by decide) rfl (Nat.le_of_ble_eq_true rfl) (lv := [(0, .ref a0)]) rfl ?_
  intro p e s m below meth c ls A hx hb hr hml hown hts hlocks hK hP hD hS hA hN hl
  have hown : s.vm.findClass RX8 = some m.cls := hown
  have hbg : ∀ w ∈ wsL_law, w ∈ aX8_day := fun w h => List.mem_cons_of_mem _ h
  have wd0 : (Cond.fieldLink RX8 7 "ClientMoneyBookModel" "state" "[I").before ([.ref a0] : List Value).toArray s = true := hts _ (List.mem_cons_of_mem _ wm_4_9)
  have iX8 : ∀ w ∈ u_ws RX8 TX8 16, w ∈ aX8_day := fun w h => List.mem_cons_of_mem _ (inlX8 w h)
  unfold fX8_day at hf
  refine lv_aload_n hx hb dX8_day_0 rfl (lv_at hl 0 rfl) ?_
  refine x_get hx hb (C := RX8) (T := TX8) (N := 16) (ci := 8) hts iX8 hown hK hP 0 rfl rfl 0 (by decide) wd0 rfl (.ref a1) rfl dX8_day_1 ?_
  refine lv_iconst (v := 0) hx hb dX8_day_4 (by decide) ?_
  obtain ⟨hi_1, hf⟩ := ckI_el hf
  refine va_iald hx hb hK hP 1 1 rfl rfl hi_1 dX8_day_5 ?_
  have hf := Option.some.inj hf
  cases hf
  exact x_iret hx hb hr hlocks hK hP hD hS dX8_day_6
theorem kdX8_clients : yX8_clients.cls = RX8 ∧ yX8_clients.cls ≠ "java/lang/invoke/MethodHandle" ∧ yX8_clients.cls ≠ "java/lang/invoke/VarHandle" ∧ (parseMethodDescriptor yX8_clients.desc).map (fun d => d.parameters.length) = some 0 := by decide +kernel
def rmX8_clients : Room := { frames := 0, cells := 0, slots := 0, locals := 0 }
set_option maxHeartbeats 4000000 in
set_option maxRecDepth 100000 in
theorem mX8_clients (l : Launch) (D : va_G) (cy : Nat → ClassId) (a0 a1 a2 a3 a4 a5 a6 : Nat) (st : Nat → Int32) (gr : Nat → Int64) (hi : Nat → Int32) (gh : Nat → Int64) (rc : Int32) (tx : Nat → Int32) (tl : Int32) (rk : Nat → Int32) (tb : Int32) (tk : Int64) (at_ : Int32) (ltr : Int32) (on_ : Int32) (tw : Int32) (th : Int32) (nu : Int32)  (r : Int32) (hf : fX8_clients st = some r) : xMi l D cy yX8_clients aX8_clients rmX8_clients ([.ref a0] : List Value) (wX8 cy a0 a1 a2 a3 a4 a5 a6 st gr hi gh rc tx tl rk tb tk at_ ltr on_ tw th nu) (wX8 cy a0 a1 a2 a3 a4 a5 a6 st gr hi gh rc tx tl rk tb tk at_ ltr on_ tw th nu) r := by
  intro hz
  refine x_start (Qc := xQi D cy _ r) (cc := cX8_clients) (maxL := 1) (ret := (some .int)) (by decide) rfl (Nat.le_of_ble_eq_true rfl) (lv := [(0, .ref a0)]) rfl ?_
  intro p e s m below meth c ls A hx hb hr hml hown hts hlocks hK hP hD hS hA hN hl
  have hown : s.vm.findClass RX8 = some m.cls := hown
  have hbg : ∀ w ∈ wsL_law, w ∈ aX8_clients := fun w h => List.mem_cons_of_mem _ h
  have wd0 : (Cond.fieldLink RX8 7 "ClientMoneyBookModel" "state" "[I").before ([.ref a0] : List Value).toArray s = true := hts _ (List.mem_cons_of_mem _ wm_4_9)
  have iX8 : ∀ w ∈ u_ws RX8 TX8 16, w ∈ aX8_clients := fun w h => List.mem_cons_of_mem _ (inlX8 w h)
  unfold fX8_clients at hf
  refine lv_aload_n hx hb dX8_clients_0 rfl (lv_at hl 0 rfl) ?_
  refine x_get hx hb (C := RX8) (T := TX8) (N := 16) (ci := 8) hts iX8 hown hK hP 0 rfl rfl 0 (by decide) wd0 rfl (.ref a1) rfl dX8_clients_1 ?_
  refine lv_iconst (v := 5) hx hb dX8_clients_4 (by decide) ?_
  obtain ⟨hi_1, hf⟩ := ckI_el hf
  refine va_iald hx hb hK hP 1 1 rfl rfl hi_1 dX8_clients_5 ?_
  have hf := Option.some.inj hf
  cases hf
  exact x_iret hx hb hr hlocks hK hP hD hS dX8_clients_6
theorem kdX8_staysAhead : yX8_staysAhead.cls = RX8 ∧ yX8_staysAhead.cls ≠ "java/lang/invoke/MethodHandle" ∧ yX8_staysAhead.cls ≠ "java/lang/invoke/VarHandle" ∧ (parseMethodDescriptor yX8_staysAhead.desc).map (fun d => d.parameters.length) = some 3 := by decide +kernel
def rmX8_staysAhead : Room := { frames := 4, cells := 0, slots := 0, locals := 88 }
set_option maxHeartbeats 4000000 in
set_option maxRecDepth 100000 in
theorem mX8_staysAhead (l : Launch) (D : va_G) (cy : Nat → ClassId) (a0 a1 a2 a3 a4 a5 a6 : Nat) (st : Nat → Int32) (gr : Nat → Int64) (hi : Nat → Int32) (gh : Nat → Int64) (rc : Int32) (tx : Nat → Int32) (tl : Int32) (rk : Nat → Int32) (tb : Int32) (tk : Int64) (at_ : Int32) (ltr : Int32) (on_ : Int32) (tw : Int32) (th : Int32) (nu : Int32) (p1 : Int32) (p2 : Int32) (p3 : Int32) (r : Int32) (hf : fX8_staysAhead st p1 p2 p3 = some r) : xMi l D cy yX8_staysAhead aX8_staysAhead rmX8_staysAhead ([.ref a0, .int p1, .int p2, .int p3] : List Value) (wX8 cy a0 a1 a2 a3 a4 a5 a6 st gr hi gh rc tx tl rk tb tk at_ ltr on_ tw th nu) (wX8 cy a0 a1 a2 a3 a4 a5 a6 st gr hi gh rc tx tl rk tb tk at_ ltr on_ tw th nu) r := by
  intro hz
  refine x_start (Qc := xQi D cy _ r) (cc := cX8_staysAhead) (maxL := 4) (ret := (some .boolean)) (by decide) rfl (Nat.le_of_ble_eq_true rfl) (lv := [(0, .ref a0), (1, .int p1), (2, .int p2), (3, .int p3)]) rfl ?_
  intro p e s m below meth c ls A hx hb hr hml hown hts hlocks hK hP hD hS hA hN hl
  have hown : s.vm.findClass RX8 = some m.cls := hown
  have hbg : ∀ w ∈ wsL_law, w ∈ aX8_staysAhead := fun w h => List.mem_cons_of_mem _ h
  unfold fX8_staysAhead at hf
  refine lv_iload_n hx hb dX8_staysAhead_0 rfl (lv_at hl 3 rfl) ?_
  refine lv_iconst (v := 1) hx hb dX8_staysAhead_1 (by decide) ?_
  refine lv_icmp_ne (tgt := 28) hx hb dX8_staysAhead_2 (by decide) (fun c_1 => ?_) (fun c_1 => ?_)
  · have hf := x_f c_1 hf
    refine lv_iload_n hx hb dX8_staysAhead_28 rfl (lv_at hl 3 rfl) ?_
    refine lv_iconst (v := 2) hx hb dX8_staysAhead_29 (by decide) ?_
    refine lv_icmp_ne (tgt := 54) hx hb dX8_staysAhead_30 (by decide) (fun c_2 => ?_) (fun c_2 => ?_)
    · have hf := x_f c_2 hf
      refine lv_aload_n hx hb dX8_staysAhead_54 rfl (lv_at hl 0 rfl) ?_
      refine lv_iload_n hx hb dX8_staysAhead_55 rfl (lv_at hl 1 rfl) ?_
      refine lv_iconst (v := 2) hx hb dX8_staysAhead_56 (by decide) ?_
      obtain ⟨r_3, h_4, hf⟩ := bd1_el hf
      refine x_callVi (As := [.int p1, .int 2]) (rest := []) ⟨hx, hb, hml, hown, hts⟩ (mX8_part l D cy a0 a1 a2 a3 a4 a5 a6 st gr hi gh rc tx tl rk tb tk at_ ltr on_ tw th nu p1 2 r_3 h_4) (cwV 2 hts (gcV_X8_part hbg wm_9_9) rfl rfl rfl kdX8_part ⟨Nat.le_of_ble_eq_true rfl, Nat.le_of_ble_eq_true rfl⟩) (w1 := []) (w2 := []) (w' := wX8 cy a0 a1 a2 a3 a4 a5 a6 st gr hi gh rc tx tl rk tb tk at_ ltr on_ tw th nu) (List.append_nil _) (List.append_nil _) hP hK hD hN hS hA (q0 := 0) rfl rfl rfl rfl hl rfl (Nat.le_of_ble_eq_true rfl) dX8_staysAhead_57 ⟨Nat.zero_le _, Nat.zero_le _⟩ (fun H locs hP hD hS => ?_)
      refine lv_aload_n hx hb dX8_staysAhead_60 rfl (lv_at hl 0 rfl) ?_
      refine lv_iload_n hx hb dX8_staysAhead_61 rfl (lv_at hl 2 rfl) ?_
      refine lv_iconst (v := 2) hx hb dX8_staysAhead_62 (by decide) ?_
      obtain ⟨r_5, h_6, hf⟩ := bd1_el hf
      refine x_callVi (As := [.int p2, .int 2]) (rest := [.int r_3]) ⟨hx, hb, hml, hown, hts⟩ (mX8_part l D cy a0 a1 a2 a3 a4 a5 a6 st gr hi gh rc tx tl rk tb tk at_ ltr on_ tw th nu p2 2 r_5 h_6) (cwV 2 hts (gcV_X8_part hbg wm_9_9) rfl rfl rfl kdX8_part ⟨Nat.le_of_ble_eq_true rfl, Nat.le_of_ble_eq_true rfl⟩) (w1 := []) (w2 := []) (w' := wX8 cy a0 a1 a2 a3 a4 a5 a6 st gr hi gh rc tx tl rk tb tk at_ ltr on_ tw th nu) (List.append_nil _) (List.append_nil _) hP hK hD hN hS hA (q0 := 0) rfl rfl rfl rfl hl rfl (Nat.le_of_ble_eq_true rfl) dX8_staysAhead_63 ⟨Nat.zero_le _, Nat.zero_le _⟩ (fun H locs hP hD hS => ?_)
      refine lv_icmp_gt (tgt := 73) hx hb dX8_staysAhead_66 (by decide) (fun c_7 => ?_) (fun c_7 => ?_)
      · have hf := x_t c_7 hf
        refine lv_iconst (v := 0) hx hb dX8_staysAhead_73 (by decide) ?_
        have hf := Option.some.inj hf
        cases hf
        exact x_zret hx hb hr hlocks hK hP hD hS rfl dX8_staysAhead_74
      · have hf := x_f c_7 hf
        refine lv_iconst (v := 1) hx hb dX8_staysAhead_69 (by decide) ?_
        refine lv_goto (tgt := 74) hx hb dX8_staysAhead_70 (by decide) ?_
        have hf := Option.some.inj hf
        cases hf
        exact x_zret hx hb hr hlocks hK hP hD hS rfl dX8_staysAhead_74
    · have hf := x_t c_2 hf
      refine lv_aload_n hx hb dX8_staysAhead_33 rfl (lv_at hl 0 rfl) ?_
      refine lv_iload_n hx hb dX8_staysAhead_34 rfl (lv_at hl 1 rfl) ?_
      obtain ⟨r_8, h_9, hf⟩ := bd1_el hf
      refine x_callVi (As := [.int p1]) (rest := []) ⟨hx, hb, hml, hown, hts⟩ (mX8_free l D cy a0 a1 a2 a3 a4 a5 a6 st gr hi gh rc tx tl rk tb tk at_ ltr on_ tw th nu p1 r_8 h_9) (cwV 1 hts (gcV_X8_free hbg wm_15_8) rfl rfl rfl kdX8_free ⟨Nat.le_of_ble_eq_true rfl, Nat.le_of_ble_eq_true rfl⟩) (w1 := []) (w2 := []) (w' := wX8 cy a0 a1 a2 a3 a4 a5 a6 st gr hi gh rc tx tl rk tb tk at_ ltr on_ tw th nu) (List.append_nil _) (List.append_nil _) hP hK hD hN hS hA (q0 := 0) rfl rfl rfl rfl hl rfl (Nat.le_of_ble_eq_true rfl) dX8_staysAhead_35 ⟨Nat.zero_le _, Nat.zero_le _⟩ (fun H locs hP hD hS => ?_)
      refine lv_aload_n hx hb dX8_staysAhead_38 rfl (lv_at hl 0 rfl) ?_
      refine lv_iload_n hx hb dX8_staysAhead_39 rfl (lv_at hl 2 rfl) ?_
      obtain ⟨r_10, h_11, hf⟩ := bd1_el hf
      refine x_callVi (As := [.int p2]) (rest := [.int r_8]) ⟨hx, hb, hml, hown, hts⟩ (mX8_free l D cy a0 a1 a2 a3 a4 a5 a6 st gr hi gh rc tx tl rk tb tk at_ ltr on_ tw th nu p2 r_10 h_11) (cwV 1 hts (gcV_X8_free hbg wm_15_8) rfl rfl rfl kdX8_free ⟨Nat.le_of_ble_eq_true rfl, Nat.le_of_ble_eq_true rfl⟩) (w1 := []) (w2 := []) (w' := wX8 cy a0 a1 a2 a3 a4 a5 a6 st gr hi gh rc tx tl rk tb tk at_ ltr on_ tw th nu) (List.append_nil _) (List.append_nil _) hP hK hD hN hS hA (q0 := 0) rfl rfl rfl rfl hl rfl (Nat.le_of_ble_eq_true rfl) dX8_staysAhead_40 ⟨Nat.zero_le _, Nat.zero_le _⟩ (fun H locs hP hD hS => ?_)
      refine lv_icmp_gt (tgt := 50) hx hb dX8_staysAhead_43 (by decide) (fun c_12 => ?_) (fun c_12 => ?_)
      · have hf := x_t c_12 hf
        refine lv_iconst (v := 0) hx hb dX8_staysAhead_50 (by decide) ?_
        refine lv_goto (tgt := 74) hx hb dX8_staysAhead_51 (by decide) ?_
        have hf := Option.some.inj hf
        cases hf
        exact x_zret hx hb hr hlocks hK hP hD hS rfl dX8_staysAhead_74
      · have hf := x_f c_12 hf
        refine lv_iconst (v := 1) hx hb dX8_staysAhead_46 (by decide) ?_
        refine lv_goto (tgt := 74) hx hb dX8_staysAhead_47 (by decide) ?_
        have hf := Option.some.inj hf
        cases hf
        exact x_zret hx hb hr hlocks hK hP hD hS rfl dX8_staysAhead_74
  · have hf := x_t c_1 hf
    refine lv_aload_n hx hb dX8_staysAhead_5 rfl (lv_at hl 0 rfl) ?_
    refine lv_iload_n hx hb dX8_staysAhead_6 rfl (lv_at hl 1 rfl) ?_
    refine lv_iconst (v := 1) hx hb dX8_staysAhead_7 (by decide) ?_
    obtain ⟨r_13, h_14, hf⟩ := bd1_el hf
    refine x_callVi (As := [.int p1, .int 1]) (rest := []) ⟨hx, hb, hml, hown, hts⟩ (mX8_part l D cy a0 a1 a2 a3 a4 a5 a6 st gr hi gh rc tx tl rk tb tk at_ ltr on_ tw th nu p1 1 r_13 h_14) (cwV 2 hts (gcV_X8_part hbg wm_9_9) rfl rfl rfl kdX8_part ⟨Nat.le_of_ble_eq_true rfl, Nat.le_of_ble_eq_true rfl⟩) (w1 := []) (w2 := []) (w' := wX8 cy a0 a1 a2 a3 a4 a5 a6 st gr hi gh rc tx tl rk tb tk at_ ltr on_ tw th nu) (List.append_nil _) (List.append_nil _) hP hK hD hN hS hA (q0 := 0) rfl rfl rfl rfl hl rfl (Nat.le_of_ble_eq_true rfl) dX8_staysAhead_8 ⟨Nat.zero_le _, Nat.zero_le _⟩ (fun H locs hP hD hS => ?_)
    refine lv_aload_n hx hb dX8_staysAhead_11 rfl (lv_at hl 0 rfl) ?_
    refine lv_iload_n hx hb dX8_staysAhead_12 rfl (lv_at hl 2 rfl) ?_
    refine lv_iconst (v := 1) hx hb dX8_staysAhead_13 (by decide) ?_
    obtain ⟨r_15, h_16, hf⟩ := bd1_el hf
    refine x_callVi (As := [.int p2, .int 1]) (rest := [.int r_13]) ⟨hx, hb, hml, hown, hts⟩ (mX8_part l D cy a0 a1 a2 a3 a4 a5 a6 st gr hi gh rc tx tl rk tb tk at_ ltr on_ tw th nu p2 1 r_15 h_16) (cwV 2 hts (gcV_X8_part hbg wm_9_9) rfl rfl rfl kdX8_part ⟨Nat.le_of_ble_eq_true rfl, Nat.le_of_ble_eq_true rfl⟩) (w1 := []) (w2 := []) (w' := wX8 cy a0 a1 a2 a3 a4 a5 a6 st gr hi gh rc tx tl rk tb tk at_ ltr on_ tw th nu) (List.append_nil _) (List.append_nil _) hP hK hD hN hS hA (q0 := 0) rfl rfl rfl rfl hl rfl (Nat.le_of_ble_eq_true rfl) dX8_staysAhead_14 ⟨Nat.zero_le _, Nat.zero_le _⟩ (fun H locs hP hD hS => ?_)
    refine lv_icmp_lt (tgt := 24) hx hb dX8_staysAhead_17 (by decide) (fun c_17 => ?_) (fun c_17 => ?_)
    · have hf := x_t c_17 hf
      refine lv_iconst (v := 0) hx hb dX8_staysAhead_24 (by decide) ?_
      refine lv_goto (tgt := 74) hx hb dX8_staysAhead_25 (by decide) ?_
      have hf := Option.some.inj hf
      cases hf
      exact x_zret hx hb hr hlocks hK hP hD hS rfl dX8_staysAhead_74
    · have hf := x_f c_17 hf
      refine lv_iconst (v := 1) hx hb dX8_staysAhead_20 (by decide) ?_
      refine lv_goto (tgt := 74) hx hb dX8_staysAhead_21 (by decide) ?_
      have hf := Option.some.inj hf
      cases hf
      exact x_zret hx hb hr hlocks hK hP hD hS rfl dX8_staysAhead_74
theorem kdX8_findRanks : yX8_findRanks.cls = RX8 ∧ yX8_findRanks.cls ≠ "java/lang/invoke/MethodHandle" ∧ yX8_findRanks.cls ≠ "java/lang/invoke/VarHandle" ∧ (parseMethodDescriptor yX8_findRanks.desc).map (fun d => d.parameters.length) = some 1 := by decide +kernel
def rmX8_findRanks : Room := { frames := 5, cells := 0, slots := 0, locals := 111 }
set_option maxHeartbeats 4000000 in
set_option maxRecDepth 100000 in
theorem mX8_findRanks (l : Launch) (D : va_G) (cy : Nat → ClassId) (a0 a1 a2 a3 a4 a5 a6 : Nat) (st : Nat → Int32) (gr : Nat → Int64) (hi : Nat → Int32) (gh : Nat → Int64) (rc : Int32) (tx : Nat → Int32) (tl : Int32) (rk : Nat → Int32) (tb : Int32) (tk : Int64) (at_ : Int32) (ltr : Int32) (on_ : Int32) (tw : Int32) (th : Int32) (nu : Int32) (p1 : Int32) (rk' : Nat → Int32) (hf : fX8_findRanks st rk p1 = some rk') : xMv l D cy yX8_findRanks aX8_findRanks rmX8_findRanks ([.ref a0, .int p1] : List Value) (wX8 cy a0 a1 a2 a3 a4 a5 a6 st gr hi gh rc tx tl rk tb tk at_ ltr on_ tw th nu) (wX8 cy a0 a1 a2 a3 a4 a5 a6 st gr hi gh rc tx tl rk' tb tk at_ ltr on_ tw th nu) := by
  intro hz
  refine x_start (Qc := xQv D cy _) (cc := cX8_findRanks) (maxL := 4) (ret := none) (by decide) rfl (Nat.le_of_ble_eq_true rfl) (lv := [(0, .ref a0), (1, .int p1)]) rfl ?_
  intro p e s m below meth c ls A hx hb hr hml hown hts hlocks hK hP hD hS hA hN hl
  have hown : s.vm.findClass RX8 = some m.cls := hown
  have hbg : ∀ w ∈ wsL_law, w ∈ aX8_findRanks := fun w h => List.mem_cons_of_mem _ h
  have wd0 : (Cond.fieldLink RX8 7 "ClientMoneyBookModel" "state" "[I").before ([.ref a0, .int p1] : List Value).toArray s = true := hts _ (List.mem_cons_of_mem _ wm_4_9)
  have wd1 : (Cond.fieldLink RX8 26 "ClientMoneyBookModel" "ranks" "[I").before ([.ref a0, .int p1] : List Value).toArray s = true := hts _ (List.mem_cons_of_mem _ wm_4_14)
  have iX8 : ∀ w ∈ u_ws RX8 TX8 16, w ∈ aX8_findRanks := fun w h => List.mem_cons_of_mem _ (inlX8 w h)
  unfold fX8_findRanks at hf
  refine lv_iconst (v := 0) hx hb dX8_findRanks_0 (by decide) ?_
  refine lv_istore_n (lv' := [(2, .int 0), (0, .ref a0), (1, .int p1)]) hx hb dX8_findRanks_1 rfl hl (by decide) rfl (fun ls hl => ?_)
  have hL_2 : ∀ (n : Nat) (rk_17 : Nat → Int32) (z2_18 : Int32) (o : (Nat → Int32)) (H : Heap) (locs : List Loc) (ls : Array Slot), fX8_findRanks_L2 st p1 n rk_17 z2_18 = some o → va_P D vwCl (wX8 cy a0 a1 a2 a3 a4 a5 a6 st gr hi gh rc tx tl rk_17 tb tk at_ ltr on_ tw th nu) H → va_D A (wX8 cy a0 a1 a2 a3 a4 a5 a6 st gr hi gh rc tx tl rk_17 tb tk at_ ltr on_ tw th nu) → va_S A s.heap H locs → lv_has ls 4 [(0, .ref a0), (1, .int p1), (2, .int z2_18)] → True → ((∀ (rk_19 : Nat → Int32) , o = rk_19 → ∀ (H : Heap) (locs : List Loc) (ls : Array Slot), va_P D vwCl (wX8 cy a0 a1 a2 a3 a4 a5 a6 st gr hi gh rc tx tl rk_19 tb tk at_ ltr on_ tw th nu) H → va_D A (wX8 cy a0 a1 a2 a3 a4 a5 a6 st gr hi gh rc tx tl rk_19 tb tk at_ ltr on_ tw th nu) → va_S A s.heap H locs → lv_has ls 4 [] → W p l e rmX8_findRanks s m ([.ref a0, .int p1] : List Value).toArray below meth c H locs 0 0 (MQ below (xQv D cy (wX8 cy a0 a1 a2 a3 a4 a5 a6 st gr hi gh rc tx tl rk' tb tk at_ ltr on_ tw th nu) A) ([.ref a0, .int p1] : List Value).toArray s 0 0 A) (F0 m 72 ls []))) → W p l e rmX8_findRanks s m ([.ref a0, .int p1] : List Value).toArray below meth c H locs 0 0 (MQ below (xQv D cy (wX8 cy a0 a1 a2 a3 a4 a5 a6 st gr hi gh rc tx tl rk' tb tk at_ ltr on_ tw th nu) A) ([.ref a0, .int p1] : List Value).toArray s 0 0 A) (F0 m 2 ls []) := by
    intro n
    induction n with
    | zero =>
      intro rk_17 z2_18 o_2 H locs ls hf
      rw [fX8_findRanks_L2] at hf
      cases hf
    | succ n ih =>
      intro rk_17 z2_18 o_2 H locs ls hf hP hD hS hl hr_2 kx_2
      rw [fX8_findRanks_L2] at hf
      refine lv_iload_n hx hb dX8_findRanks_2 rfl (lv_at hl 2 rfl) ?_
      refine lv_aload_n hx hb dX8_findRanks_3 rfl (lv_at hl 0 rfl) ?_
      refine x_get hx hb (C := RX8) (T := TX8) (N := 16) (ci := 8) hts iX8 hown hK hP 0 rfl rfl 0 (by decide) wd0 rfl (.ref a1) rfl dX8_findRanks_4 ?_
      refine lv_iconst (v := 5) hx hb dX8_findRanks_7 (by decide) ?_
      obtain ⟨hi_20, hf⟩ := ckI_el hf
      refine va_iald hx hb hK hP 1 1 rfl rfl hi_20 dX8_findRanks_8 ?_
      refine lv_icmp_ge (tgt := 72) hx hb dX8_findRanks_9 (by decide) (fun c_21 => ?_) (fun c_21 => ?_)
      · have hf := x_t c_21 hf
        exact kx_2 rk_17 (Option.some.inj hf).symm _ _ _ hP hD hS (lv_sub hl [] rfl)
      · have hf := x_f c_21 hf
        refine lv_iload_n hx hb dX8_findRanks_12 rfl (lv_at hl 2 rfl) ?_
        refine lv_istore_n (lv' := [(3, .int z2_18), (0, .ref a0), (1, .int p1), (2, .int z2_18)]) hx hb dX8_findRanks_13 rfl hl (by decide) rfl (fun ls hl => ?_)
        have hL_14 : ∀ (n : Nat) (rk_26 : Nat → Int32) (z3_27 : Int32) (o : (Nat → Int32) × Int32) (H : Heap) (locs : List Loc) (ls : Array Slot), fX8_findRanks_L14 st p1 z2_18 n rk_26 z3_27 = some o → va_P D vwCl (wX8 cy a0 a1 a2 a3 a4 a5 a6 st gr hi gh rc tx tl rk_26 tb tk at_ ltr on_ tw th nu) H → va_D A (wX8 cy a0 a1 a2 a3 a4 a5 a6 st gr hi gh rc tx tl rk_26 tb tk at_ ltr on_ tw th nu) → va_S A s.heap H locs → lv_has ls 4 [(0, .ref a0), (1, .int p1), (2, .int z2_18), (3, .int z3_27)] → True → ((∀ (rk_28 : Nat → Int32) (x3_29 : Int32) , o = (rk_28, x3_29) → ∀ (H : Heap) (locs : List Loc) (ls : Array Slot), va_P D vwCl (wX8 cy a0 a1 a2 a3 a4 a5 a6 st gr hi gh rc tx tl rk_28 tb tk at_ ltr on_ tw th nu) H → va_D A (wX8 cy a0 a1 a2 a3 a4 a5 a6 st gr hi gh rc tx tl rk_28 tb tk at_ ltr on_ tw th nu) → va_S A s.heap H locs → lv_has ls 4 [(0, .ref a0), (1, .int p1), (2, .int z2_18), (3, .int x3_29)] → W p l e rmX8_findRanks s m ([.ref a0, .int p1] : List Value).toArray below meth c H locs 0 0 (MQ below (xQv D cy (wX8 cy a0 a1 a2 a3 a4 a5 a6 st gr hi gh rc tx tl rk' tb tk at_ ltr on_ tw th nu) A) ([.ref a0, .int p1] : List Value).toArray s 0 0 A) (F0 m 59 ls []))) → W p l e rmX8_findRanks s m ([.ref a0, .int p1] : List Value).toArray below meth c H locs 0 0 (MQ below (xQv D cy (wX8 cy a0 a1 a2 a3 a4 a5 a6 st gr hi gh rc tx tl rk' tb tk at_ ltr on_ tw th nu) A) ([.ref a0, .int p1] : List Value).toArray s 0 0 A) (F0 m 14 ls []) := by
          intro n
          induction n with
          | zero =>
            intro rk_26 z3_27 o_14 H locs ls hf
            rw [fX8_findRanks_L14] at hf
            cases hf
          | succ n ih =>
            intro rk_26 z3_27 o_14 H locs ls hf hP hD hS hl hr_14 kx_14
            rw [fX8_findRanks_L14] at hf
            refine lv_iload_n hx hb dX8_findRanks_14 rfl (lv_at hl 1 rfl) ?_
            refine lv_if_le (tgt := 59) hx hb dX8_findRanks_15 (by decide) (fun c_30 => ?_) (fun c_30 => ?_)
            · have hf := x_t c_30 hf
              exact kx_14 rk_26 z3_27 (Option.some.inj hf).symm _ _ _ hP hD hS (lv_sub hl [0, 1, 2, 3] rfl)
            · have hf := x_f c_30 hf
              refine lv_iload_n hx hb dX8_findRanks_18 rfl (lv_at hl 3 rfl) ?_
              refine lv_if_le (tgt := 59) hx hb dX8_findRanks_19 (by decide) (fun c_31 => ?_) (fun c_31 => ?_)
              · have hf := x_t c_31 hf
                exact kx_14 rk_26 z3_27 (Option.some.inj hf).symm _ _ _ hP hD hS (lv_sub hl [0, 1, 2, 3] rfl)
              · have hf := x_f c_31 hf
                refine lv_aload_n hx hb dX8_findRanks_22 rfl (lv_at hl 0 rfl) ?_
                refine lv_aload_n hx hb dX8_findRanks_23 rfl (lv_at hl 0 rfl) ?_
                refine x_get hx hb (C := RX8) (T := TX8) (N := 16) (ci := 8) hts iX8 hown hK hP 0 rfl rfl 7 (by decide) wd1 rfl (.ref a6) rfl dX8_findRanks_24 ?_
                refine lv_iload_n hx hb dX8_findRanks_27 rfl (lv_at hl 3 rfl) ?_
                refine lv_iconst (v := 1) hx hb dX8_findRanks_28 (by decide) ?_
                refine lv_isub hx hb dX8_findRanks_29 ?_
                obtain ⟨hi_32, hf⟩ := ckI_el hf
                refine va_iald hx hb hK hP 6 1 rfl rfl hi_32 dX8_findRanks_30 ?_
                refine lv_iload_n hx hb dX8_findRanks_31 rfl (lv_at hl 2 rfl) ?_
                refine lv_iload_n hx hb dX8_findRanks_32 rfl (lv_at hl 1 rfl) ?_
                obtain ⟨r_33, h_34, hf⟩ := bd1_el hf
                refine x_callVi (As := [.int (rk_26 (z3_27 - 1).toNatClampNeg), .int z2_18, .int p1]) (rest := []) ⟨hx, hb, hml, hown, hts⟩ (mX8_staysAhead l D cy a0 a1 a2 a3 a4 a5 a6 st gr hi gh rc tx tl rk_26 tb tk at_ ltr on_ tw th nu (rk_26 (z3_27 - 1).toNatClampNeg) z2_18 p1 r_33 h_34) (cwV 3 hts (gcV_X8_staysAhead hbg wm_28_6) rfl rfl rfl kdX8_staysAhead ⟨Nat.le_of_ble_eq_true rfl, Nat.le_of_ble_eq_true rfl⟩) (w1 := []) (w2 := []) (w' := wX8 cy a0 a1 a2 a3 a4 a5 a6 st gr hi gh rc tx tl rk_26 tb tk at_ ltr on_ tw th nu) (List.append_nil _) (List.append_nil _) hP hK hD hN hS hA (q0 := 0) rfl rfl rfl rfl hl rfl (Nat.le_of_ble_eq_true rfl) dX8_findRanks_33 ⟨Nat.zero_le _, Nat.zero_le _⟩ (fun H locs hP hD hS => ?_)
                refine lv_if_ne (tgt := 59) hx hb dX8_findRanks_36 (by decide) (fun c_35 => ?_) (fun c_35 => ?_)
                · have hf := x_f c_35 hf
                  exact kx_14 rk_26 z3_27 (Option.some.inj hf).symm _ _ _ hP hD hS (lv_sub hl [0, 1, 2, 3] rfl)
                · have hf := x_t c_35 hf
                  refine lv_aload_n hx hb dX8_findRanks_39 rfl (lv_at hl 0 rfl) ?_
                  refine x_get hx hb (C := RX8) (T := TX8) (N := 16) (ci := 8) hts iX8 hown hK hP 0 rfl rfl 7 (by decide) wd1 rfl (.ref a6) rfl dX8_findRanks_40 ?_
                  refine lv_iload_n hx hb dX8_findRanks_43 rfl (lv_at hl 3 rfl) ?_
                  refine lv_aload_n hx hb dX8_findRanks_44 rfl (lv_at hl 0 rfl) ?_
                  refine x_get hx hb (C := RX8) (T := TX8) (N := 16) (ci := 8) hts iX8 hown hK hP 0 rfl rfl 7 (by decide) wd1 rfl (.ref a6) rfl dX8_findRanks_45 ?_
                  refine lv_iload_n hx hb dX8_findRanks_48 rfl (lv_at hl 3 rfl) ?_
                  refine lv_iconst (v := 1) hx hb dX8_findRanks_49 (by decide) ?_
                  refine lv_isub hx hb dX8_findRanks_50 ?_
                  obtain ⟨hi_36, hf⟩ := ckI_el hf
                  refine va_iald hx hb hK hP 6 1 rfl rfl hi_36 dX8_findRanks_51 ?_
                  obtain ⟨hi_37, hf⟩ := ckI_el hf
                  obtain ⟨rk_38, erk_38, hf⟩ := lt_el hf
                  refine x_iast hx hb hK hP hD hS 6 rfl hi_37 erk_38 (w' := wX8 cy a0 a1 a2 a3 a4 a5 a6 st gr hi gh rc tx tl rk_38 tb tk at_ ltr on_ tw th nu) rfl dX8_findRanks_52 (fun H locs hP hD hS => ?_)
                  refine lv_iinc (v := (z3_27 + (-1))) (lv' := [(3, .int (z3_27 + (-1))), (0, .ref a0), (1, .int p1), (2, .int z2_18)]) hx hb dX8_findRanks_53 hl (k := 3) rfl rfl (by decide) rfl (fun ls hl => ?_)
                  refine lv_goto (tgt := 14) hx hb dX8_findRanks_56 (by decide) ?_
                  exact ih rk_38 (z3_27 + (-1)) _ _ _ _ hf hP hD hS (lv_sub hl [1, 2, 3, 0] rfl) hr_14 kx_14
        obtain ⟨rk_22, x3_23, h1_14, hf⟩ := bd2_el hf
        refine hL_14 2147483648 rk_17 z2_18 _ _ _ _ h1_14 hP hD hS (lv_sub hl [1, 2, 3, 0] rfl) trivial (fun rk_229 x3_239 ho H locs ls hP hD hS hl => ?_)
        cases ho
        refine lv_aload_n hx hb dX8_findRanks_59 rfl (lv_at hl 0 rfl) ?_
        refine x_get hx hb (C := RX8) (T := TX8) (N := 16) (ci := 8) hts iX8 hown hK hP 0 rfl rfl 7 (by decide) wd1 rfl (.ref a6) rfl dX8_findRanks_60 ?_
        refine lv_iload_n hx hb dX8_findRanks_63 rfl (lv_at hl 3 rfl) ?_
        refine lv_iload_n hx hb dX8_findRanks_64 rfl (lv_at hl 2 rfl) ?_
        obtain ⟨hi_24, hf⟩ := ckI_el hf
        obtain ⟨rk_25, erk_25, hf⟩ := lt_el hf
        refine x_iast hx hb hK hP hD hS 6 rfl hi_24 erk_25 (w' := wX8 cy a0 a1 a2 a3 a4 a5 a6 st gr hi gh rc tx tl rk_25 tb tk at_ ltr on_ tw th nu) rfl dX8_findRanks_65 (fun H locs hP hD hS => ?_)
        refine lv_iinc (v := (z2_18 + 1)) (lv' := [(2, .int (z2_18 + 1)), (0, .ref a0), (1, .int p1), (3, .int x3_23)]) hx hb dX8_findRanks_66 hl (k := 2) rfl rfl (by decide) rfl (fun ls hl => ?_)
        refine lv_goto (tgt := 2) hx hb dX8_findRanks_69 (by decide) ?_
        exact ih rk_25 (z2_18 + 1) _ _ _ _ hf hP hD hS (lv_sub hl [1, 2, 0] rfl) hr_2 kx_2
  obtain ⟨rk_16, h1_2, hf⟩ := bd1_el hf
  refine hL_2 2147483648 rk 0 _ _ _ _ h1_2 hP hD hS (lv_sub hl [1, 2, 0] rfl) trivial (fun rk_169 ho H locs ls hP hD hS hl => ?_)
  cases ho
  have hf := Option.some.inj hf
  cases hf
  exact x_vret hx hb hr hlocks hK hP hD hS dX8_findRanks_72
theorem kdX8_ranked : yX8_ranked.cls = RX8 ∧ yX8_ranked.cls ≠ "java/lang/invoke/MethodHandle" ∧ yX8_ranked.cls ≠ "java/lang/invoke/VarHandle" ∧ (parseMethodDescriptor yX8_ranked.desc).map (fun d => d.parameters.length) = some 2 := by decide +kernel
def rmX8_ranked : Room := { frames := 6, cells := 0, slots := 0, locals := 134 }
set_option maxHeartbeats 4000000 in
set_option maxRecDepth 100000 in
theorem mX8_ranked (l : Launch) (D : va_G) (cy : Nat → ClassId) (a0 a1 a2 a3 a4 a5 a6 : Nat) (st : Nat → Int32) (gr : Nat → Int64) (hi : Nat → Int32) (gh : Nat → Int64) (rc : Int32) (tx : Nat → Int32) (tl : Int32) (rk : Nat → Int32) (tb : Int32) (tk : Int64) (at_ : Int32) (ltr : Int32) (on_ : Int32) (tw : Int32) (th : Int32) (nu : Int32) (p1 : Int32) (p2 : Int32) (r : Int32) (rk' : Nat → Int32) (hf : fX8_ranked st rk p1 p2 = some (r, rk')) : xMi l D cy yX8_ranked aX8_ranked rmX8_ranked ([.ref a0, .int p1, .int p2] : List Value) (wX8 cy a0 a1 a2 a3 a4 a5 a6 st gr hi gh rc tx tl rk tb tk at_ ltr on_ tw th nu) (wX8 cy a0 a1 a2 a3 a4 a5 a6 st gr hi gh rc tx tl rk' tb tk at_ ltr on_ tw th nu) r := by
  intro hz
  refine x_start (Qc := xQi D cy _ r) (cc := cX8_ranked) (maxL := 3) (ret := (some .int)) (by decide) rfl (Nat.le_of_ble_eq_true rfl) (lv := [(0, .ref a0), (1, .int p1), (2, .int p2)]) rfl ?_
  intro p e s m below meth c ls A hx hb hr hml hown hts hlocks hK hP hD hS hA hN hl
  have hown : s.vm.findClass RX8 = some m.cls := hown
  have hbg : ∀ w ∈ wsL_law, w ∈ aX8_ranked := fun w h => List.mem_cons_of_mem _ h
  have wd0 : (Cond.fieldLink RX8 7 "ClientMoneyBookModel" "state" "[I").before ([.ref a0, .int p1, .int p2] : List Value).toArray s = true := hts _ (List.mem_cons_of_mem _ wm_4_9)
  have wd1 : (Cond.fieldLink RX8 26 "ClientMoneyBookModel" "ranks" "[I").before ([.ref a0, .int p1, .int p2] : List Value).toArray s = true := hts _ (List.mem_cons_of_mem _ wm_4_14)
  have iX8 : ∀ w ∈ u_ws RX8 TX8 16, w ∈ aX8_ranked := fun w h => List.mem_cons_of_mem _ (inlX8 w h)
  unfold fX8_ranked at hf
  refine lv_iload_n hx hb dX8_ranked_0 rfl (lv_at hl 1 rfl) ?_
  refine lv_iconst (v := 0) hx hb dX8_ranked_1 (by decide) ?_
  refine lv_iconst (v := 3) hx hb dX8_ranked_2 (by decide) ?_
  obtain ⟨r_1, h_2, hf⟩ := bd1_el hf
  refine x_callSi (As := [.int p1, .int 0, .int 3]) (rest := []) ⟨hx, hb, hml, hown, hts⟩ (mX8_within l D cy   p1 0 3 r_1 h_2) (va_cwS 3 hts (gcS_X8_within hbg wm_7_0) rfl rfl rfl kdX8_within ⟨Nat.le_of_ble_eq_true rfl, Nat.le_of_ble_eq_true rfl⟩) (w1 := []) (w2 := wX8 cy a0 a1 a2 a3 a4 a5 a6 st gr hi gh rc tx tl rk tb tk at_ ltr on_ tw th nu) (w' := wX8 cy a0 a1 a2 a3 a4 a5 a6 st gr hi gh rc tx tl rk tb tk at_ ltr on_ tw th nu) rfl rfl hP hK hD hN hS hA rfl hl rfl (Nat.le_of_ble_eq_true rfl) dX8_ranked_3 ⟨Nat.zero_le _, Nat.zero_le _⟩ (fun H locs hP hD hS => ?_)
  refine lv_if_ne (tgt := 12) hx hb dX8_ranked_6 (by decide) (fun c_3 => ?_) (fun c_3 => ?_)
  · have hf := x_f c_3 hf
    refine lv_iload_n hx hb dX8_ranked_12 rfl (lv_at hl 2 rfl) ?_
    refine lv_iconst (v := 0) hx hb dX8_ranked_13 (by decide) ?_
    refine lv_aload_n hx hb dX8_ranked_14 rfl (lv_at hl 0 rfl) ?_
    refine x_get hx hb (C := RX8) (T := TX8) (N := 16) (ci := 8) hts iX8 hown hK hP 0 rfl rfl 0 (by decide) wd0 rfl (.ref a1) rfl dX8_ranked_15 ?_
    refine lv_iconst (v := 5) hx hb dX8_ranked_18 (by decide) ?_
    obtain ⟨hi_4, hf⟩ := ckI_el hf
    refine va_iald hx hb hK hP 1 1 rfl rfl hi_4 dX8_ranked_19 ?_
    refine lv_iconst (v := 1) hx hb dX8_ranked_20 (by decide) ?_
    refine lv_isub hx hb dX8_ranked_21 ?_
    obtain ⟨r_5, h_6, hf⟩ := bd1_el hf
    refine x_callSi (As := [.int p2, .int 0, .int ((st (5 : Int32).toNatClampNeg) - 1)]) (rest := []) ⟨hx, hb, hml, hown, hts⟩ (mX8_within l D cy   p2 0 ((st (5 : Int32).toNatClampNeg) - 1) r_5 h_6) (va_cwS 3 hts (gcS_X8_within hbg wm_7_0) rfl rfl rfl kdX8_within ⟨Nat.le_of_ble_eq_true rfl, Nat.le_of_ble_eq_true rfl⟩) (w1 := []) (w2 := wX8 cy a0 a1 a2 a3 a4 a5 a6 st gr hi gh rc tx tl rk tb tk at_ ltr on_ tw th nu) (w' := wX8 cy a0 a1 a2 a3 a4 a5 a6 st gr hi gh rc tx tl rk tb tk at_ ltr on_ tw th nu) rfl rfl hP hK hD hN hS hA rfl hl rfl (Nat.le_of_ble_eq_true rfl) dX8_ranked_22 ⟨Nat.zero_le _, Nat.zero_le _⟩ (fun H locs hP hD hS => ?_)
    refine lv_if_ne (tgt := 30) hx hb dX8_ranked_25 (by decide) (fun c_7 => ?_) (fun c_7 => ?_)
    · have hf := x_f c_7 hf
      refine lv_aload_n hx hb dX8_ranked_30 rfl (lv_at hl 0 rfl) ?_
      refine lv_iload_n hx hb dX8_ranked_31 rfl (lv_at hl 1 rfl) ?_
      obtain ⟨rk_8, h_9, hf⟩ := bd1_el hf
      refine x_callVv (As := [.int p1]) (rest := []) ⟨hx, hb, hml, hown, hts⟩ (mX8_findRanks l D cy a0 a1 a2 a3 a4 a5 a6 st gr hi gh rc tx tl rk tb tk at_ ltr on_ tw th nu p1 rk_8 h_9) (cwV 1 hts (gcV_X8_findRanks hbg wm_28_2) rfl rfl rfl kdX8_findRanks ⟨Nat.le_of_ble_eq_true rfl, Nat.le_of_ble_eq_true rfl⟩) (w1 := []) (w2 := []) (w' := wX8 cy a0 a1 a2 a3 a4 a5 a6 st gr hi gh rc tx tl rk_8 tb tk at_ ltr on_ tw th nu) (List.append_nil _) (List.append_nil _) hP hK hD hN hS hA (q0 := 0) rfl rfl rfl rfl hl rfl (Nat.le_of_ble_eq_true rfl) dX8_ranked_32 ⟨Nat.zero_le _, Nat.zero_le _⟩ (fun H locs hP hD hS => ?_)
      refine lv_aload_n hx hb dX8_ranked_35 rfl (lv_at hl 0 rfl) ?_
      refine lv_aload_n hx hb dX8_ranked_36 rfl (lv_at hl 0 rfl) ?_
      refine x_get hx hb (C := RX8) (T := TX8) (N := 16) (ci := 8) hts iX8 hown hK hP 0 rfl rfl 7 (by decide) wd1 rfl (.ref a6) rfl dX8_ranked_37 ?_
      refine lv_iload_n hx hb dX8_ranked_40 rfl (lv_at hl 2 rfl) ?_
      obtain ⟨hi_10, hf⟩ := ckI_el hf
      refine va_iald hx hb hK hP 6 1 rfl rfl hi_10 dX8_ranked_41 ?_
      refine lv_iconst (v := 0) hx hb dX8_ranked_42 (by decide) ?_
      obtain ⟨r_11, h_12, hf⟩ := bd1_el hf
      refine x_callVi (As := [.int (rk_8 p2.toNatClampNeg), .int 0]) (rest := []) ⟨hx, hb, hml, hown, hts⟩ (mX8_part l D cy a0 a1 a2 a3 a4 a5 a6 st gr hi gh rc tx tl rk_8 tb tk at_ ltr on_ tw th nu (rk_8 p2.toNatClampNeg) 0 r_11 h_12) (cwV 2 hts (gcV_X8_part hbg wm_9_9) rfl rfl rfl kdX8_part ⟨Nat.le_of_ble_eq_true rfl, Nat.le_of_ble_eq_true rfl⟩) (w1 := []) (w2 := []) (w' := wX8 cy a0 a1 a2 a3 a4 a5 a6 st gr hi gh rc tx tl rk_8 tb tk at_ ltr on_ tw th nu) (List.append_nil _) (List.append_nil _) hP hK hD hN hS hA (q0 := 0) rfl rfl rfl rfl hl rfl (Nat.le_of_ble_eq_true rfl) dX8_ranked_43 ⟨Nat.zero_le _, Nat.zero_le _⟩ (fun H locs hP hD hS => ?_)
      have hf := Option.some.inj hf
      cases hf
      exact x_iret hx hb hr hlocks hK hP hD hS dX8_ranked_46
    · have hf := x_t c_7 hf
      refine lv_iconst (v := (-1)) hx hb dX8_ranked_28 (by decide) ?_
      have hf := Option.some.inj hf
      cases hf
      exact x_iret hx hb hr hlocks hK hP hD hS dX8_ranked_29
  · have hf := x_t c_3 hf
    refine lv_bipush (v := (-2)) hx hb dX8_ranked_9 (by decide) ?_
    have hf := Option.some.inj hf
    cases hf
    exact x_iret hx hb hr hlocks hK hP hD hS dX8_ranked_11
theorem kdX8_restOf : yX8_restOf.cls = RX8 ∧ yX8_restOf.cls ≠ "java/lang/invoke/MethodHandle" ∧ yX8_restOf.cls ≠ "java/lang/invoke/VarHandle" ∧ (parseMethodDescriptor yX8_restOf.desc).map (fun d => d.parameters.length) = some 1 := by decide +kernel
def rmX8_restOf : Room := { frames := 1, cells := 0, slots := 0, locals := 22 }
set_option maxHeartbeats 4000000 in
set_option maxRecDepth 100000 in
theorem mX8_restOf (l : Launch) (D : va_G) (cy : Nat → ClassId) (a0 a1 a2 a3 a4 a5 a6 : Nat) (st : Nat → Int32) (gr : Nat → Int64) (hi : Nat → Int32) (gh : Nat → Int64) (rc : Int32) (tx : Nat → Int32) (tl : Int32) (rk : Nat → Int32) (tb : Int32) (tk : Int64) (at_ : Int32) (ltr : Int32) (on_ : Int32) (tw : Int32) (th : Int32) (nu : Int32) (p1 : Int32) (r : Int32) (hf : fX8_restOf st p1 = some r) : xMi l D cy yX8_restOf aX8_restOf rmX8_restOf ([.ref a0, .int p1] : List Value) (wX8 cy a0 a1 a2 a3 a4 a5 a6 st gr hi gh rc tx tl rk tb tk at_ ltr on_ tw th nu) (wX8 cy a0 a1 a2 a3 a4 a5 a6 st gr hi gh rc tx tl rk tb tk at_ ltr on_ tw th nu) r := by
  intro hz
  refine x_start (Qc := xQi D cy _ r) (cc := cX8_restOf) (maxL := 4) (ret := (some .int)) (by decide) rfl (Nat.le_of_ble_eq_true rfl) (lv := [(0, .ref a0), (1, .int p1)]) rfl ?_
  intro p e s m below meth c ls A hx hb hr hml hown hts hlocks hK hP hD hS hA hN hl
  have hown : s.vm.findClass RX8 = some m.cls := hown
  have hbg : ∀ w ∈ wsL_law, w ∈ aX8_restOf := fun w h => List.mem_cons_of_mem _ h
  have wd0 : (Cond.fieldLink RX8 7 "ClientMoneyBookModel" "state" "[I").before ([.ref a0, .int p1] : List Value).toArray s = true := hts _ (List.mem_cons_of_mem _ wm_4_9)
  have iX8 : ∀ w ∈ u_ws RX8 TX8 16, w ∈ aX8_restOf := fun w h => List.mem_cons_of_mem _ (inlX8 w h)
  unfold fX8_restOf at hf
  refine lv_iconst (v := 0) hx hb dX8_restOf_0 (by decide) ?_
  refine lv_istore_n (lv' := [(2, .int 0), (0, .ref a0), (1, .int p1)]) hx hb dX8_restOf_1 rfl hl (by decide) rfl (fun ls hl => ?_)
  refine lv_iconst (v := 0) hx hb dX8_restOf_2 (by decide) ?_
  refine lv_istore_n (lv' := [(3, .int 0), (2, .int 0), (0, .ref a0), (1, .int p1)]) hx hb dX8_restOf_3 rfl hl (by decide) rfl (fun ls hl => ?_)
  have hL_4 : ∀ (n : Nat) (z2_11 : Int32) (z3_12 : Int32) (o : Int32) (H : Heap) (locs : List Loc) (ls : Array Slot), fX8_restOf_L4 st p1 n z2_11 z3_12 = some o → va_P D vwCl (wX8 cy a0 a1 a2 a3 a4 a5 a6 st gr hi gh rc tx tl rk tb tk at_ ltr on_ tw th nu) H → va_D A (wX8 cy a0 a1 a2 a3 a4 a5 a6 st gr hi gh rc tx tl rk tb tk at_ ltr on_ tw th nu) → va_S A s.heap H locs → lv_has ls 4 [(0, .ref a0), (1, .int p1), (2, .int z2_11), (3, .int z3_12)] → True → ((∀ (x2_13 : Int32) , o = x2_13 → ∀ (H : Heap) (locs : List Loc) (ls : Array Slot), va_P D vwCl (wX8 cy a0 a1 a2 a3 a4 a5 a6 st gr hi gh rc tx tl rk tb tk at_ ltr on_ tw th nu) H → va_D A (wX8 cy a0 a1 a2 a3 a4 a5 a6 st gr hi gh rc tx tl rk tb tk at_ ltr on_ tw th nu) → va_S A s.heap H locs → lv_has ls 4 [(2, .int x2_13)] → W p l e rmX8_restOf s m ([.ref a0, .int p1] : List Value).toArray below meth c H locs 0 0 (MQ below (xQi D cy (wX8 cy a0 a1 a2 a3 a4 a5 a6 st gr hi gh rc tx tl rk tb tk at_ ltr on_ tw th nu) r A) ([.ref a0, .int p1] : List Value).toArray s 0 0 A) (F0 m 44 ls []))) → W p l e rmX8_restOf s m ([.ref a0, .int p1] : List Value).toArray below meth c H locs 0 0 (MQ below (xQi D cy (wX8 cy a0 a1 a2 a3 a4 a5 a6 st gr hi gh rc tx tl rk tb tk at_ ltr on_ tw th nu) r A) ([.ref a0, .int p1] : List Value).toArray s 0 0 A) (F0 m 4 ls []) := by
    intro n
    induction n with
    | zero =>
      intro z2_11 z3_12 o_4 H locs ls hf
      rw [fX8_restOf_L4] at hf
      cases hf
    | succ n ih =>
      intro z2_11 z3_12 o_4 H locs ls hf hP hD hS hl hr_4 kx_4
      rw [fX8_restOf_L4] at hf
      refine lv_iload_n hx hb dX8_restOf_4 rfl (lv_at hl 3 rfl) ?_
      refine lv_aload_n hx hb dX8_restOf_5 rfl (lv_at hl 0 rfl) ?_
      refine x_get hx hb (C := RX8) (T := TX8) (N := 16) (ci := 8) hts iX8 hown hK hP 0 rfl rfl 0 (by decide) wd0 rfl (.ref a1) rfl dX8_restOf_6 ?_
      refine lv_bipush (v := 7) hx hb dX8_restOf_9 (by decide) ?_
      obtain ⟨hi_14, hf⟩ := ckI_el hf
      refine va_iald hx hb hK hP 1 1 rfl rfl hi_14 dX8_restOf_11 ?_
      refine lv_icmp_ge (tgt := 44) hx hb dX8_restOf_12 (by decide) (fun c_15 => ?_) (fun c_15 => ?_)
      · have hf := x_t c_15 hf
        exact kx_4 z2_11 (Option.some.inj hf).symm _ _ _ hP hD hS (lv_sub hl [2] rfl)
      · have hf := x_f c_15 hf
        refine lv_iload_n hx hb dX8_restOf_15 rfl (lv_at hl 2 rfl) ?_
        refine lv_aload_n hx hb dX8_restOf_16 rfl (lv_at hl 0 rfl) ?_
        refine lv_iload_n hx hb dX8_restOf_17 rfl (lv_at hl 3 rfl) ?_
        refine lv_iconst (v := 1) hx hb dX8_restOf_18 (by decide) ?_
        obtain ⟨r_16, h_17, hf⟩ := bd1_el hf
        refine x_callVi (As := [.int z3_12, .int 1]) (rest := [.int z2_11]) ⟨hx, hb, hml, hown, hts⟩ (mX8_billPart l D cy a0 a1 a2 a3 a4 a5 a6 st gr hi gh rc tx tl rk tb tk at_ ltr on_ tw th nu z3_12 1 r_16 h_17) (cwV 2 hts (gcV_X8_billPart hbg wm_11_1) rfl rfl rfl kdX8_billPart ⟨Nat.le_of_ble_eq_true rfl, Nat.le_of_ble_eq_true rfl⟩) (w1 := []) (w2 := []) (w' := wX8 cy a0 a1 a2 a3 a4 a5 a6 st gr hi gh rc tx tl rk tb tk at_ ltr on_ tw th nu) (List.append_nil _) (List.append_nil _) hP hK hD hN hS hA (q0 := 0) rfl rfl rfl rfl hl rfl (Nat.le_of_ble_eq_true rfl) dX8_restOf_19 ⟨Nat.zero_le _, Nat.zero_le _⟩ (fun H locs hP hD hS => ?_)
        refine lv_iload_n hx hb dX8_restOf_22 rfl (lv_at hl 1 rfl) ?_
        refine lv_icmp_ne (tgt := 35) hx hb dX8_restOf_23 (by decide) (fun c_18 => ?_) (fun c_18 => ?_)
        · have hf := x_f c_18 hf
          refine lv_iconst (v := 0) hx hb dX8_restOf_35 (by decide) ?_
          refine lv_iadd hx hb dX8_restOf_36 ?_
          obtain ⟨x2_19, ex2_19, hf⟩ := lt_el hf
          refine x_topi ex2_19 ?_
          refine lv_istore_n (lv' := [(2, .int x2_19), (0, .ref a0), (1, .int p1), (3, .int z3_12)]) hx hb dX8_restOf_37 rfl hl (by decide) rfl (fun ls hl => ?_)
          refine lv_iinc (v := (z3_12 + 1)) (lv' := [(3, .int (z3_12 + 1)), (2, .int x2_19), (0, .ref a0), (1, .int p1)]) hx hb dX8_restOf_38 hl (k := 3) rfl rfl (by decide) rfl (fun ls hl => ?_)
          refine lv_goto (tgt := 4) hx hb dX8_restOf_41 (by decide) ?_
          exact ih x2_19 (z3_12 + 1) _ _ _ _ hf hP hD hS (lv_sub hl [2, 3, 1, 0] rfl) hr_4 kx_4
        · have hf := x_t c_18 hf
          refine lv_aload_n hx hb dX8_restOf_26 rfl (lv_at hl 0 rfl) ?_
          refine lv_iload_n hx hb dX8_restOf_27 rfl (lv_at hl 3 rfl) ?_
          refine lv_iconst (v := 2) hx hb dX8_restOf_28 (by decide) ?_
          obtain ⟨r_20, h_21, hf⟩ := bd1_el hf
          refine x_callVi (As := [.int z3_12, .int 2]) (rest := [.int z2_11]) ⟨hx, hb, hml, hown, hts⟩ (mX8_billPart l D cy a0 a1 a2 a3 a4 a5 a6 st gr hi gh rc tx tl rk tb tk at_ ltr on_ tw th nu z3_12 2 r_20 h_21) (cwV 2 hts (gcV_X8_billPart hbg wm_11_1) rfl rfl rfl kdX8_billPart ⟨Nat.le_of_ble_eq_true rfl, Nat.le_of_ble_eq_true rfl⟩) (w1 := []) (w2 := []) (w' := wX8 cy a0 a1 a2 a3 a4 a5 a6 st gr hi gh rc tx tl rk tb tk at_ ltr on_ tw th nu) (List.append_nil _) (List.append_nil _) hP hK hD hN hS hA (q0 := 0) rfl rfl rfl rfl hl rfl (Nat.le_of_ble_eq_true rfl) dX8_restOf_29 ⟨Nat.zero_le _, Nat.zero_le _⟩ (fun H locs hP hD hS => ?_)
          refine lv_goto (tgt := 36) hx hb dX8_restOf_32 (by decide) ?_
          refine lv_iadd hx hb dX8_restOf_36 ?_
          obtain ⟨x2_22, ex2_22, hf⟩ := lt_el hf
          refine x_topi ex2_22 ?_
          refine lv_istore_n (lv' := [(2, .int x2_22), (0, .ref a0), (1, .int p1), (3, .int z3_12)]) hx hb dX8_restOf_37 rfl hl (by decide) rfl (fun ls hl => ?_)
          refine lv_iinc (v := (z3_12 + 1)) (lv' := [(3, .int (z3_12 + 1)), (2, .int x2_22), (0, .ref a0), (1, .int p1)]) hx hb dX8_restOf_38 hl (k := 3) rfl rfl (by decide) rfl (fun ls hl => ?_)
          refine lv_goto (tgt := 4) hx hb dX8_restOf_41 (by decide) ?_
          exact ih x2_22 (z3_12 + 1) _ _ _ _ hf hP hD hS (lv_sub hl [2, 3, 1, 0] rfl) hr_4 kx_4
  obtain ⟨x2_10, h1_4, hf⟩ := bd1_el hf
  refine hL_4 2147483648 0 0 _ _ _ _ h1_4 hP hD hS (lv_sub hl [2, 3, 1, 0] rfl) trivial (fun x2_109 ho H locs ls hP hD hS hl => ?_)
  cases ho
  refine lv_iload_n hx hb dX8_restOf_44 rfl (lv_at hl 0 rfl) ?_
  have hf := Option.some.inj hf
  cases hf
  exact x_iret hx hb hr hlocks hK hP hD hS dX8_restOf_45
theorem kdX8_holdsOf : yX8_holdsOf.cls = RX8 ∧ yX8_holdsOf.cls ≠ "java/lang/invoke/MethodHandle" ∧ yX8_holdsOf.cls ≠ "java/lang/invoke/VarHandle" ∧ (parseMethodDescriptor yX8_holdsOf.desc).map (fun d => d.parameters.length) = some 1 := by decide +kernel
def rmX8_holdsOf : Room := { frames := 1, cells := 0, slots := 0, locals := 22 }
set_option maxHeartbeats 4000000 in
set_option maxRecDepth 100000 in
theorem mX8_holdsOf (l : Launch) (D : va_G) (cy : Nat → ClassId) (a0 a1 a2 a3 a4 a5 a6 : Nat) (st : Nat → Int32) (gr : Nat → Int64) (hi : Nat → Int32) (gh : Nat → Int64) (rc : Int32) (tx : Nat → Int32) (tl : Int32) (rk : Nat → Int32) (tb : Int32) (tk : Int64) (at_ : Int32) (ltr : Int32) (on_ : Int32) (tw : Int32) (th : Int32) (nu : Int32) (p1 : Int32) (r : Int32) (hf : fX8_holdsOf st p1 = some r) : xMi l D cy yX8_holdsOf aX8_holdsOf rmX8_holdsOf ([.ref a0, .int p1] : List Value) (wX8 cy a0 a1 a2 a3 a4 a5 a6 st gr hi gh rc tx tl rk tb tk at_ ltr on_ tw th nu) (wX8 cy a0 a1 a2 a3 a4 a5 a6 st gr hi gh rc tx tl rk tb tk at_ ltr on_ tw th nu) r := by
  intro hz
  refine x_start (Qc := xQi D cy _ r) (cc := cX8_holdsOf) (maxL := 4) (ret := (some .int)) (by decide) rfl (Nat.le_of_ble_eq_true rfl) (lv := [(0, .ref a0), (1, .int p1)]) rfl ?_
  intro p e s m below meth c ls A hx hb hr hml hown hts hlocks hK hP hD hS hA hN hl
  have hown : s.vm.findClass RX8 = some m.cls := hown
  have hbg : ∀ w ∈ wsL_law, w ∈ aX8_holdsOf := fun w h => List.mem_cons_of_mem _ h
  have wd0 : (Cond.fieldLink RX8 7 "ClientMoneyBookModel" "state" "[I").before ([.ref a0, .int p1] : List Value).toArray s = true := hts _ (List.mem_cons_of_mem _ wm_4_9)
  have iX8 : ∀ w ∈ u_ws RX8 TX8 16, w ∈ aX8_holdsOf := fun w h => List.mem_cons_of_mem _ (inlX8 w h)
  unfold fX8_holdsOf at hf
  refine lv_iconst (v := 0) hx hb dX8_holdsOf_0 (by decide) ?_
  refine lv_istore_n (lv' := [(2, .int 0), (0, .ref a0), (1, .int p1)]) hx hb dX8_holdsOf_1 rfl hl (by decide) rfl (fun ls hl => ?_)
  refine lv_iconst (v := 0) hx hb dX8_holdsOf_2 (by decide) ?_
  refine lv_istore_n (lv' := [(3, .int 0), (2, .int 0), (0, .ref a0), (1, .int p1)]) hx hb dX8_holdsOf_3 rfl hl (by decide) rfl (fun ls hl => ?_)
  have hL_4 : ∀ (n : Nat) (z2_9 : Int32) (z3_10 : Int32) (o : Int32) (H : Heap) (locs : List Loc) (ls : Array Slot), fX8_holdsOf_L4 st p1 n z2_9 z3_10 = some o → va_P D vwCl (wX8 cy a0 a1 a2 a3 a4 a5 a6 st gr hi gh rc tx tl rk tb tk at_ ltr on_ tw th nu) H → va_D A (wX8 cy a0 a1 a2 a3 a4 a5 a6 st gr hi gh rc tx tl rk tb tk at_ ltr on_ tw th nu) → va_S A s.heap H locs → lv_has ls 4 [(0, .ref a0), (1, .int p1), (2, .int z2_9), (3, .int z3_10)] → True → ((∀ (x2_11 : Int32) , o = x2_11 → ∀ (H : Heap) (locs : List Loc) (ls : Array Slot), va_P D vwCl (wX8 cy a0 a1 a2 a3 a4 a5 a6 st gr hi gh rc tx tl rk tb tk at_ ltr on_ tw th nu) H → va_D A (wX8 cy a0 a1 a2 a3 a4 a5 a6 st gr hi gh rc tx tl rk tb tk at_ ltr on_ tw th nu) → va_S A s.heap H locs → lv_has ls 4 [(2, .int x2_11)] → W p l e rmX8_holdsOf s m ([.ref a0, .int p1] : List Value).toArray below meth c H locs 0 0 (MQ below (xQi D cy (wX8 cy a0 a1 a2 a3 a4 a5 a6 st gr hi gh rc tx tl rk tb tk at_ ltr on_ tw th nu) r A) ([.ref a0, .int p1] : List Value).toArray s 0 0 A) (F0 m 39 ls []))) → W p l e rmX8_holdsOf s m ([.ref a0, .int p1] : List Value).toArray below meth c H locs 0 0 (MQ below (xQi D cy (wX8 cy a0 a1 a2 a3 a4 a5 a6 st gr hi gh rc tx tl rk tb tk at_ ltr on_ tw th nu) r A) ([.ref a0, .int p1] : List Value).toArray s 0 0 A) (F0 m 4 ls []) := by
    intro n
    induction n with
    | zero =>
      intro z2_9 z3_10 o_4 H locs ls hf
      rw [fX8_holdsOf_L4] at hf
      cases hf
    | succ n ih =>
      intro z2_9 z3_10 o_4 H locs ls hf hP hD hS hl hr_4 kx_4
      rw [fX8_holdsOf_L4] at hf
      refine lv_iload_n hx hb dX8_holdsOf_4 rfl (lv_at hl 3 rfl) ?_
      refine lv_aload_n hx hb dX8_holdsOf_5 rfl (lv_at hl 0 rfl) ?_
      refine x_get hx hb (C := RX8) (T := TX8) (N := 16) (ci := 8) hts iX8 hown hK hP 0 rfl rfl 0 (by decide) wd0 rfl (.ref a1) rfl dX8_holdsOf_6 ?_
      refine lv_bipush (v := 6) hx hb dX8_holdsOf_9 (by decide) ?_
      obtain ⟨hi_12, hf⟩ := ckI_el hf
      refine va_iald hx hb hK hP 1 1 rfl rfl hi_12 dX8_holdsOf_11 ?_
      refine lv_icmp_ge (tgt := 39) hx hb dX8_holdsOf_12 (by decide) (fun c_13 => ?_) (fun c_13 => ?_)
      · have hf := x_t c_13 hf
        exact kx_4 z2_9 (Option.some.inj hf).symm _ _ _ hP hD hS (lv_sub hl [2] rfl)
      · have hf := x_f c_13 hf
        refine lv_iload_n hx hb dX8_holdsOf_15 rfl (lv_at hl 2 rfl) ?_
        refine lv_aload_n hx hb dX8_holdsOf_16 rfl (lv_at hl 0 rfl) ?_
        refine lv_iload_n hx hb dX8_holdsOf_17 rfl (lv_at hl 3 rfl) ?_
        refine lv_iconst (v := 1) hx hb dX8_holdsOf_18 (by decide) ?_
        obtain ⟨r_14, h_15, hf⟩ := bd1_el hf
        refine x_callVi (As := [.int z3_10, .int 1]) (rest := [.int z2_9]) ⟨hx, hb, hml, hown, hts⟩ (mX8_holdPart l D cy a0 a1 a2 a3 a4 a5 a6 st gr hi gh rc tx tl rk tb tk at_ ltr on_ tw th nu z3_10 1 r_14 h_15) (cwV 2 hts (gcV_X8_holdPart hbg wm_15_20) rfl rfl rfl kdX8_holdPart ⟨Nat.le_of_ble_eq_true rfl, Nat.le_of_ble_eq_true rfl⟩) (w1 := []) (w2 := []) (w' := wX8 cy a0 a1 a2 a3 a4 a5 a6 st gr hi gh rc tx tl rk tb tk at_ ltr on_ tw th nu) (List.append_nil _) (List.append_nil _) hP hK hD hN hS hA (q0 := 0) rfl rfl rfl rfl hl rfl (Nat.le_of_ble_eq_true rfl) dX8_holdsOf_19 ⟨Nat.zero_le _, Nat.zero_le _⟩ (fun H locs hP hD hS => ?_)
        refine lv_iload_n hx hb dX8_holdsOf_22 rfl (lv_at hl 1 rfl) ?_
        refine lv_icmp_ne (tgt := 30) hx hb dX8_holdsOf_23 (by decide) (fun c_16 => ?_) (fun c_16 => ?_)
        · have hf := x_f c_16 hf
          refine lv_iconst (v := 0) hx hb dX8_holdsOf_30 (by decide) ?_
          refine lv_iadd hx hb dX8_holdsOf_31 ?_
          obtain ⟨x2_17, ex2_17, hf⟩ := lt_el hf
          refine x_topi ex2_17 ?_
          refine lv_istore_n (lv' := [(2, .int x2_17), (0, .ref a0), (1, .int p1), (3, .int z3_10)]) hx hb dX8_holdsOf_32 rfl hl (by decide) rfl (fun ls hl => ?_)
          refine lv_iinc (v := (z3_10 + 1)) (lv' := [(3, .int (z3_10 + 1)), (2, .int x2_17), (0, .ref a0), (1, .int p1)]) hx hb dX8_holdsOf_33 hl (k := 3) rfl rfl (by decide) rfl (fun ls hl => ?_)
          refine lv_goto (tgt := 4) hx hb dX8_holdsOf_36 (by decide) ?_
          exact ih x2_17 (z3_10 + 1) _ _ _ _ hf hP hD hS (lv_sub hl [2, 3, 1, 0] rfl) hr_4 kx_4
        · have hf := x_t c_16 hf
          refine lv_iconst (v := 1) hx hb dX8_holdsOf_26 (by decide) ?_
          refine lv_goto (tgt := 31) hx hb dX8_holdsOf_27 (by decide) ?_
          refine lv_iadd hx hb dX8_holdsOf_31 ?_
          obtain ⟨x2_18, ex2_18, hf⟩ := lt_el hf
          refine x_topi ex2_18 ?_
          refine lv_istore_n (lv' := [(2, .int x2_18), (0, .ref a0), (1, .int p1), (3, .int z3_10)]) hx hb dX8_holdsOf_32 rfl hl (by decide) rfl (fun ls hl => ?_)
          refine lv_iinc (v := (z3_10 + 1)) (lv' := [(3, .int (z3_10 + 1)), (2, .int x2_18), (0, .ref a0), (1, .int p1)]) hx hb dX8_holdsOf_33 hl (k := 3) rfl rfl (by decide) rfl (fun ls hl => ?_)
          refine lv_goto (tgt := 4) hx hb dX8_holdsOf_36 (by decide) ?_
          exact ih x2_18 (z3_10 + 1) _ _ _ _ hf hP hD hS (lv_sub hl [2, 3, 1, 0] rfl) hr_4 kx_4
  obtain ⟨x2_8, h1_4, hf⟩ := bd1_el hf
  refine hL_4 2147483648 0 0 _ _ _ _ h1_4 hP hD hS (lv_sub hl [2, 3, 1, 0] rfl) trivial (fun x2_89 ho H locs ls hP hD hS hl => ?_)
  cases ho
  refine lv_iload_n hx hb dX8_holdsOf_39 rfl (lv_at hl 0 rfl) ?_
  have hf := Option.some.inj hf
  cases hf
  exact x_iret hx hb hr hlocks hK hP hD hS dX8_holdsOf_40
theorem kdX8_ofClient : yX8_ofClient.cls = RX8 ∧ yX8_ofClient.cls ≠ "java/lang/invoke/MethodHandle" ∧ yX8_ofClient.cls ≠ "java/lang/invoke/VarHandle" ∧ (parseMethodDescriptor yX8_ofClient.desc).map (fun d => d.parameters.length) = some 2 := by decide +kernel
def rmX8_ofClient : Room := { frames := 4, cells := 0, slots := 0, locals := 88 }
set_option maxHeartbeats 4000000 in
set_option maxRecDepth 100000 in
theorem mX8_ofClient (l : Launch) (D : va_G) (cy : Nat → ClassId) (a0 a1 a2 a3 a4 a5 a6 : Nat) (st : Nat → Int32) (gr : Nat → Int64) (hi : Nat → Int32) (gh : Nat → Int64) (rc : Int32) (tx : Nat → Int32) (tl : Int32) (rk : Nat → Int32) (tb : Int32) (tk : Int64) (at_ : Int32) (ltr : Int32) (on_ : Int32) (tw : Int32) (th : Int32) (nu : Int32) (p1 : Int32) (p2 : Int32) (r : Int32) (hf : fX8_ofClient st gr p1 p2 = some r) : xMi l D cy yX8_ofClient aX8_ofClient rmX8_ofClient ([.ref a0, .int p1, .int p2] : List Value) (wX8 cy a0 a1 a2 a3 a4 a5 a6 st gr hi gh rc tx tl rk tb tk at_ ltr on_ tw th nu) (wX8 cy a0 a1 a2 a3 a4 a5 a6 st gr hi gh rc tx tl rk tb tk at_ ltr on_ tw th nu) r := by
  intro hz
  refine x_start (Qc := xQi D cy _ r) (cc := cX8_ofClient) (maxL := 3) (ret := (some .int)) (by decide) rfl (Nat.le_of_ble_eq_true rfl) (lv := [(0, .ref a0), (1, .int p1), (2, .int p2)]) rfl ?_
  intro p e s m below meth c ls A hx hb hr hml hown hts hlocks hK hP hD hS hA hN hl
  have hown : s.vm.findClass RX8 = some m.cls := hown
  have hbg : ∀ w ∈ wsL_law, w ∈ aX8_ofClient := fun w h => List.mem_cons_of_mem _ h
  have wd0 : (Cond.fieldLink RX8 13 "ClientMoneyBookModel" "great" "[J").before ([.ref a0, .int p1, .int p2] : List Value).toArray s = true := hts _ (List.mem_cons_of_mem _ wm_4_10)
  have wd1 : (Cond.constantLong RX8 151 (3650000)).before ([.ref a0, .int p1, .int p2] : List Value).toArray s = true := hts _ (List.mem_cons_of_mem _ wm_24_3)
  have wd2 : (Cond.constantLong RX8 191 (1000000000)).before ([.ref a0, .int p1, .int p2] : List Value).toArray s = true := hts _ (List.mem_cons_of_mem _ wm_29_5)
  have wd3 : (Cond.constant RX8 71 (1000000000)).before ([.ref a0, .int p1, .int p2] : List Value).toArray s = true := hts _ (List.mem_cons_of_mem _ wm_6_23)
  have iX8 : ∀ w ∈ u_ws RX8 TX8 16, w ∈ aX8_ofClient := fun w h => List.mem_cons_of_mem _ (inlX8 w h)
  unfold fX8_ofClient at hf
  refine lv_iload_n hx hb dX8_ofClient_0 rfl (lv_at hl 2 rfl) ?_
  by_cases s_1 : p2 = 0
  · have hf := x_t s_1 hf
    have s_1i : p2.toInt = 0 := by rw [s_1]; rfl
    refine lv_tableIn (tgt := 44) (off := 43) hx hb dX8_ofClient_1 (by rw [s_1i]; decide) (by rw [s_1i]; decide) (by rw [s_1i]; rfl) (by decide) ?_
    refine lv_aload_n hx hb dX8_ofClient_44 rfl (lv_at hl 0 rfl) ?_
    refine lv_iload_n hx hb dX8_ofClient_45 rfl (lv_at hl 1 rfl) ?_
    refine lv_iconst (v := 1) hx hb dX8_ofClient_46 (by decide) ?_
    obtain ⟨r_2, h_3, hf⟩ := bd1_el hf
    refine x_callVi (As := [.int p1, .int 1]) (rest := []) ⟨hx, hb, hml, hown, hts⟩ (mX8_part l D cy a0 a1 a2 a3 a4 a5 a6 st gr hi gh rc tx tl rk tb tk at_ ltr on_ tw th nu p1 1 r_2 h_3) (cwV 2 hts (gcV_X8_part hbg wm_9_9) rfl rfl rfl kdX8_part ⟨Nat.le_of_ble_eq_true rfl, Nat.le_of_ble_eq_true rfl⟩) (w1 := []) (w2 := []) (w' := wX8 cy a0 a1 a2 a3 a4 a5 a6 st gr hi gh rc tx tl rk tb tk at_ ltr on_ tw th nu) (List.append_nil _) (List.append_nil _) hP hK hD hN hS hA (q0 := 0) rfl rfl rfl rfl hl rfl (Nat.le_of_ble_eq_true rfl) dX8_ofClient_47 ⟨Nat.zero_le _, Nat.zero_le _⟩ (fun H locs hP hD hS => ?_)
    have hf := Option.some.inj hf
    cases hf
    exact x_iret hx hb hr hlocks hK hP hD hS dX8_ofClient_50
  · have hf := x_f s_1 hf
    by_cases s_4 : p2 = 1
    · have hf := x_t s_4 hf
      have s_4i : p2.toInt = 1 := by rw [s_4]; rfl
      refine lv_tableIn (tgt := 51) (off := 50) hx hb dX8_ofClient_1 (by rw [s_4i]; decide) (by rw [s_4i]; decide) (by rw [s_4i]; rfl) (by decide) ?_
      refine lv_aload_n hx hb dX8_ofClient_51 rfl (lv_at hl 0 rfl) ?_
      refine lv_iload_n hx hb dX8_ofClient_52 rfl (lv_at hl 1 rfl) ?_
      obtain ⟨r_5, h_6, hf⟩ := bd1_el hf
      refine x_callVi (As := [.int p1]) (rest := []) ⟨hx, hb, hml, hown, hts⟩ (mX8_held l D cy a0 a1 a2 a3 a4 a5 a6 st gr hi gh rc tx tl rk tb tk at_ ltr on_ tw th nu p1 r_5 h_6) (cwV 1 hts (gcV_X8_held hbg wm_15_12) rfl rfl rfl kdX8_held ⟨Nat.le_of_ble_eq_true rfl, Nat.le_of_ble_eq_true rfl⟩) (w1 := []) (w2 := []) (w' := wX8 cy a0 a1 a2 a3 a4 a5 a6 st gr hi gh rc tx tl rk tb tk at_ ltr on_ tw th nu) (List.append_nil _) (List.append_nil _) hP hK hD hN hS hA (q0 := 0) rfl rfl rfl rfl hl rfl (Nat.le_of_ble_eq_true rfl) dX8_ofClient_53 ⟨Nat.zero_le _, Nat.zero_le _⟩ (fun H locs hP hD hS => ?_)
      have hf := Option.some.inj hf
      cases hf
      exact x_iret hx hb hr hlocks hK hP hD hS dX8_ofClient_56
    · have hf := x_f s_4 hf
      by_cases s_7 : p2 = 2
      · have hf := x_t s_7 hf
        have s_7i : p2.toInt = 2 := by rw [s_7]; rfl
        refine lv_tableIn (tgt := 57) (off := 56) hx hb dX8_ofClient_1 (by rw [s_7i]; decide) (by rw [s_7i]; decide) (by rw [s_7i]; rfl) (by decide) ?_
        refine lv_aload_n hx hb dX8_ofClient_57 rfl (lv_at hl 0 rfl) ?_
        refine lv_iload_n hx hb dX8_ofClient_58 rfl (lv_at hl 1 rfl) ?_
        obtain ⟨r_8, h_9, hf⟩ := bd1_el hf
        refine x_callVi (As := [.int p1]) (rest := []) ⟨hx, hb, hml, hown, hts⟩ (mX8_free l D cy a0 a1 a2 a3 a4 a5 a6 st gr hi gh rc tx tl rk tb tk at_ ltr on_ tw th nu p1 r_8 h_9) (cwV 1 hts (gcV_X8_free hbg wm_15_8) rfl rfl rfl kdX8_free ⟨Nat.le_of_ble_eq_true rfl, Nat.le_of_ble_eq_true rfl⟩) (w1 := []) (w2 := []) (w' := wX8 cy a0 a1 a2 a3 a4 a5 a6 st gr hi gh rc tx tl rk tb tk at_ ltr on_ tw th nu) (List.append_nil _) (List.append_nil _) hP hK hD hN hS hA (q0 := 0) rfl rfl rfl rfl hl rfl (Nat.le_of_ble_eq_true rfl) dX8_ofClient_59 ⟨Nat.zero_le _, Nat.zero_le _⟩ (fun H locs hP hD hS => ?_)
        have hf := Option.some.inj hf
        cases hf
        exact x_iret hx hb hr hlocks hK hP hD hS dX8_ofClient_62
      · have hf := x_f s_7 hf
        by_cases s_10 : p2 = 3
        · have hf := x_t s_10 hf
          have s_10i : p2.toInt = 3 := by rw [s_10]; rfl
          refine lv_tableIn (tgt := 63) (off := 62) hx hb dX8_ofClient_1 (by rw [s_10i]; decide) (by rw [s_10i]; decide) (by rw [s_10i]; rfl) (by decide) ?_
          refine lv_aload_n hx hb dX8_ofClient_63 rfl (lv_at hl 0 rfl) ?_
          refine x_get hx hb (C := RX8) (T := TX8) (N := 16) (ci := 8) hts iX8 hown hK hP 0 rfl rfl 1 (by decide) wd0 rfl (.ref a2) rfl dX8_ofClient_64 ?_
          refine lv_iload_n hx hb dX8_ofClient_67 rfl (lv_at hl 1 rfl) ?_
          obtain ⟨hi_11, hf⟩ := ckI_el hf
          refine va_lald hx hb hK hP 2 2 rfl rfl hi_11 dX8_ofClient_68 ?_
          refine lv_ldc2 hx hb hown wd1 dX8_ofClient_69 ?_
          refine lv_ldiv hx hb dX8_ofClient_72 (by decide) ?_
          refine lv_ldc2 hx hb hown wd2 dX8_ofClient_73 ?_
          refine W.lcmp hx hb dX8_ofClient_76 ?_
          refine lv_if_le (tgt := 85) hx hb dX8_ofClient_77 (by decide) (fun c_12 => ?_) (fun c_12 => ?_)
          · have c_12 := (lg_cmp_le _ _).mp c_12
            have hf := x_t c_12 hf
            refine lv_aload_n hx hb dX8_ofClient_85 rfl (lv_at hl 0 rfl) ?_
            refine x_get hx hb (C := RX8) (T := TX8) (N := 16) (ci := 8) hts iX8 hown hK hP 0 rfl rfl 1 (by decide) wd0 rfl (.ref a2) rfl dX8_ofClient_86 ?_
            refine lv_iload_n hx hb dX8_ofClient_89 rfl (lv_at hl 1 rfl) ?_
            obtain ⟨hi_13, hf⟩ := ckI_el hf
            refine va_lald hx hb hK hP 2 2 rfl rfl hi_13 dX8_ofClient_90 ?_
            refine lv_ldc2 hx hb hown wd1 dX8_ofClient_91 ?_
            refine lv_ldiv hx hb dX8_ofClient_94 (by decide) ?_
            refine lv_l2i (v := ((gr p1.toNatClampNeg) / 3650000).toInt32) hx hb dX8_ofClient_95 rfl ?_
            have hf := Option.some.inj hf
            cases hf
            exact x_iret hx hb hr hlocks hK hP hD hS dX8_ofClient_96
          · have c_12 := fun q => c_12 ((lg_cmp_le _ _).mpr q)
            have hf := x_f c_12 hf
            refine lv_ldc hx hb hown wd3 dX8_ofClient_80 ?_
            refine lv_goto (tgt := 96) hx hb dX8_ofClient_82 (by decide) ?_
            have hf := Option.some.inj hf
            cases hf
            exact x_iret hx hb hr hlocks hK hP hD hS dX8_ofClient_96
        · have hf := x_f s_10 hf
          by_cases s_14 : p2 = 4
          · have hf := x_t s_14 hf
            have s_14i : p2.toInt = 4 := by rw [s_14]; rfl
            refine lv_tableIn (tgt := 97) (off := 96) hx hb dX8_ofClient_1 (by rw [s_14i]; decide) (by rw [s_14i]; decide) (by rw [s_14i]; rfl) (by decide) ?_
            refine lv_aload_n hx hb dX8_ofClient_97 rfl (lv_at hl 0 rfl) ?_
            refine lv_aload_n hx hb dX8_ofClient_98 rfl (lv_at hl 0 rfl) ?_
            refine lv_iload_n hx hb dX8_ofClient_99 rfl (lv_at hl 1 rfl) ?_
            refine lv_iconst (v := 0) hx hb dX8_ofClient_100 (by decide) ?_
            obtain ⟨r_15, h_16, hf⟩ := bd1_el hf
            refine x_callVi (As := [.int p1, .int 0]) (rest := [.ref a0]) ⟨hx, hb, hml, hown, hts⟩ (mX8_part l D cy a0 a1 a2 a3 a4 a5 a6 st gr hi gh rc tx tl rk tb tk at_ ltr on_ tw th nu p1 0 r_15 h_16) (cwV 2 hts (gcV_X8_part hbg wm_9_9) rfl rfl rfl kdX8_part ⟨Nat.le_of_ble_eq_true rfl, Nat.le_of_ble_eq_true rfl⟩) (w1 := []) (w2 := []) (w' := wX8 cy a0 a1 a2 a3 a4 a5 a6 st gr hi gh rc tx tl rk tb tk at_ ltr on_ tw th nu) (List.append_nil _) (List.append_nil _) hP hK hD hN hS hA (q0 := 0) rfl rfl rfl rfl hl rfl (Nat.le_of_ble_eq_true rfl) dX8_ofClient_101 ⟨Nat.zero_le _, Nat.zero_le _⟩ (fun H locs hP hD hS => ?_)
            obtain ⟨r_17, h_18, hf⟩ := bd1_el hf
            refine x_callVi (As := [.int r_15]) (rest := []) ⟨hx, hb, hml, hown, hts⟩ (mX8_restOf l D cy a0 a1 a2 a3 a4 a5 a6 st gr hi gh rc tx tl rk tb tk at_ ltr on_ tw th nu r_15 r_17 h_18) (cwV 1 hts (gcV_X8_restOf hbg wm_29_6) rfl rfl rfl kdX8_restOf ⟨Nat.le_of_ble_eq_true rfl, Nat.le_of_ble_eq_true rfl⟩) (w1 := []) (w2 := []) (w' := wX8 cy a0 a1 a2 a3 a4 a5 a6 st gr hi gh rc tx tl rk tb tk at_ ltr on_ tw th nu) (List.append_nil _) (List.append_nil _) hP hK hD hN hS hA (q0 := 0) rfl rfl rfl rfl hl rfl (Nat.le_of_ble_eq_true rfl) dX8_ofClient_104 ⟨Nat.zero_le _, Nat.zero_le _⟩ (fun H locs hP hD hS => ?_)
            have hf := Option.some.inj hf
            cases hf
            exact x_iret hx hb hr hlocks hK hP hD hS dX8_ofClient_107
          · have hf := x_f s_14 hf
            by_cases s_19 : p2 = 5
            · have hf := x_t s_19 hf
              have s_19i : p2.toInt = 5 := by rw [s_19]; rfl
              refine lv_tableIn (tgt := 108) (off := 107) hx hb dX8_ofClient_1 (by rw [s_19i]; decide) (by rw [s_19i]; decide) (by rw [s_19i]; rfl) (by decide) ?_
              refine lv_aload_n hx hb dX8_ofClient_108 rfl (lv_at hl 0 rfl) ?_
              refine lv_iload_n hx hb dX8_ofClient_109 rfl (lv_at hl 1 rfl) ?_
              refine lv_iconst (v := 2) hx hb dX8_ofClient_110 (by decide) ?_
              obtain ⟨r_20, h_21, hf⟩ := bd1_el hf
              refine x_callVi (As := [.int p1, .int 2]) (rest := []) ⟨hx, hb, hml, hown, hts⟩ (mX8_part l D cy a0 a1 a2 a3 a4 a5 a6 st gr hi gh rc tx tl rk tb tk at_ ltr on_ tw th nu p1 2 r_20 h_21) (cwV 2 hts (gcV_X8_part hbg wm_9_9) rfl rfl rfl kdX8_part ⟨Nat.le_of_ble_eq_true rfl, Nat.le_of_ble_eq_true rfl⟩) (w1 := []) (w2 := []) (w' := wX8 cy a0 a1 a2 a3 a4 a5 a6 st gr hi gh rc tx tl rk tb tk at_ ltr on_ tw th nu) (List.append_nil _) (List.append_nil _) hP hK hD hN hS hA (q0 := 0) rfl rfl rfl rfl hl rfl (Nat.le_of_ble_eq_true rfl) dX8_ofClient_111 ⟨Nat.zero_le _, Nat.zero_le _⟩ (fun H locs hP hD hS => ?_)
              have hf := Option.some.inj hf
              cases hf
              exact x_iret hx hb hr hlocks hK hP hD hS dX8_ofClient_114
            · have hf := x_f s_19 hf
              by_cases s_22 : p2 = 6
              · have hf := x_t s_22 hf
                have s_22i : p2.toInt = 6 := by rw [s_22]; rfl
                refine lv_tableIn (tgt := 115) (off := 114) hx hb dX8_ofClient_1 (by rw [s_22i]; decide) (by rw [s_22i]; decide) (by rw [s_22i]; rfl) (by decide) ?_
                refine lv_aload_n hx hb dX8_ofClient_115 rfl (lv_at hl 0 rfl) ?_
                refine lv_aload_n hx hb dX8_ofClient_116 rfl (lv_at hl 0 rfl) ?_
                refine lv_iload_n hx hb dX8_ofClient_117 rfl (lv_at hl 1 rfl) ?_
                refine lv_iconst (v := 0) hx hb dX8_ofClient_118 (by decide) ?_
                obtain ⟨r_23, h_24, hf⟩ := bd1_el hf
                refine x_callVi (As := [.int p1, .int 0]) (rest := [.ref a0]) ⟨hx, hb, hml, hown, hts⟩ (mX8_part l D cy a0 a1 a2 a3 a4 a5 a6 st gr hi gh rc tx tl rk tb tk at_ ltr on_ tw th nu p1 0 r_23 h_24) (cwV 2 hts (gcV_X8_part hbg wm_9_9) rfl rfl rfl kdX8_part ⟨Nat.le_of_ble_eq_true rfl, Nat.le_of_ble_eq_true rfl⟩) (w1 := []) (w2 := []) (w' := wX8 cy a0 a1 a2 a3 a4 a5 a6 st gr hi gh rc tx tl rk tb tk at_ ltr on_ tw th nu) (List.append_nil _) (List.append_nil _) hP hK hD hN hS hA (q0 := 0) rfl rfl rfl rfl hl rfl (Nat.le_of_ble_eq_true rfl) dX8_ofClient_119 ⟨Nat.zero_le _, Nat.zero_le _⟩ (fun H locs hP hD hS => ?_)
                obtain ⟨r_25, h_26, hf⟩ := bd1_el hf
                refine x_callVi (As := [.int r_23]) (rest := []) ⟨hx, hb, hml, hown, hts⟩ (mX8_holdsOf l D cy a0 a1 a2 a3 a4 a5 a6 st gr hi gh rc tx tl rk tb tk at_ ltr on_ tw th nu r_23 r_25 h_26) (cwV 1 hts (gcV_X8_holdsOf hbg wm_29_10) rfl rfl rfl kdX8_holdsOf ⟨Nat.le_of_ble_eq_true rfl, Nat.le_of_ble_eq_true rfl⟩) (w1 := []) (w2 := []) (w' := wX8 cy a0 a1 a2 a3 a4 a5 a6 st gr hi gh rc tx tl rk tb tk at_ ltr on_ tw th nu) (List.append_nil _) (List.append_nil _) hP hK hD hN hS hA (q0 := 0) rfl rfl rfl rfl hl rfl (Nat.le_of_ble_eq_true rfl) dX8_ofClient_122 ⟨Nat.zero_le _, Nat.zero_le _⟩ (fun H locs hP hD hS => ?_)
                have hf := Option.some.inj hf
                cases hf
                exact x_iret hx hb hr hlocks hK hP hD hS dX8_ofClient_125
              · have hf := x_f s_22 hf
                refine lv_tableOut (tgt := 126) hx hb dX8_ofClient_1 (x_out0_6 s_1 s_4 s_7 s_10 s_14 s_19 s_22) (by decide) ?_
                refine lv_aload_n hx hb dX8_ofClient_126 rfl (lv_at hl 0 rfl) ?_
                refine lv_aload_n hx hb dX8_ofClient_127 rfl (lv_at hl 0 rfl) ?_
                refine lv_iload_n hx hb dX8_ofClient_128 rfl (lv_at hl 1 rfl) ?_
                refine lv_iconst (v := 0) hx hb dX8_ofClient_129 (by decide) ?_
                obtain ⟨r_27, h_28, hf⟩ := bd1_el hf
                refine x_callVi (As := [.int p1, .int 0]) (rest := [.ref a0]) ⟨hx, hb, hml, hown, hts⟩ (mX8_part l D cy a0 a1 a2 a3 a4 a5 a6 st gr hi gh rc tx tl rk tb tk at_ ltr on_ tw th nu p1 0 r_27 h_28) (cwV 2 hts (gcV_X8_part hbg wm_9_9) rfl rfl rfl kdX8_part ⟨Nat.le_of_ble_eq_true rfl, Nat.le_of_ble_eq_true rfl⟩) (w1 := []) (w2 := []) (w' := wX8 cy a0 a1 a2 a3 a4 a5 a6 st gr hi gh rc tx tl rk tb tk at_ ltr on_ tw th nu) (List.append_nil _) (List.append_nil _) hP hK hD hN hS hA (q0 := 0) rfl rfl rfl rfl hl rfl (Nat.le_of_ble_eq_true rfl) dX8_ofClient_130 ⟨Nat.zero_le _, Nat.zero_le _⟩ (fun H locs hP hD hS => ?_)
                obtain ⟨r_29, h_30, hf⟩ := bd1_el hf
                refine x_callVi (As := [.int r_27]) (rest := []) ⟨hx, hb, hml, hown, hts⟩ (mX8_billsOf l D cy a0 a1 a2 a3 a4 a5 a6 st gr hi gh rc tx tl rk tb tk at_ ltr on_ tw th nu r_27 r_29 h_30) (cwV 1 hts (gcV_X8_billsOf hbg wm_10_21) rfl rfl rfl kdX8_billsOf ⟨Nat.le_of_ble_eq_true rfl, Nat.le_of_ble_eq_true rfl⟩) (w1 := []) (w2 := []) (w' := wX8 cy a0 a1 a2 a3 a4 a5 a6 st gr hi gh rc tx tl rk tb tk at_ ltr on_ tw th nu) (List.append_nil _) (List.append_nil _) hP hK hD hN hS hA (q0 := 0) rfl rfl rfl rfl hl rfl (Nat.le_of_ble_eq_true rfl) dX8_ofClient_133 ⟨Nat.zero_le _, Nat.zero_le _⟩ (fun H locs hP hD hS => ?_)
                have hf := Option.some.inj hf
                cases hf
                exact x_iret hx hb hr hlocks hK hP hD hS dX8_ofClient_136
theorem kdX8_of : yX8_of.cls = RX8 ∧ yX8_of.cls ≠ "java/lang/invoke/MethodHandle" ∧ yX8_of.cls ≠ "java/lang/invoke/VarHandle" ∧ (parseMethodDescriptor yX8_of.desc).map (fun d => d.parameters.length) = some 2 := by decide +kernel
def rmX8_of : Room := { frames := 5, cells := 0, slots := 0, locals := 110 }
set_option maxHeartbeats 4000000 in
set_option maxRecDepth 100000 in
theorem mX8_of (l : Launch) (D : va_G) (cy : Nat → ClassId) (a0 a1 a2 a3 a4 a5 a6 : Nat) (st : Nat → Int32) (gr : Nat → Int64) (hi : Nat → Int32) (gh : Nat → Int64) (rc : Int32) (tx : Nat → Int32) (tl : Int32) (rk : Nat → Int32) (tb : Int32) (tk : Int64) (at_ : Int32) (ltr : Int32) (on_ : Int32) (tw : Int32) (th : Int32) (nu : Int32) (p1 : Int32) (p2 : Int32) (r : Int32) (hf : fX8_of st gr p1 p2 = some r) : xMi l D cy yX8_of aX8_of rmX8_of ([.ref a0, .int p1, .int p2] : List Value) (wX8 cy a0 a1 a2 a3 a4 a5 a6 st gr hi gh rc tx tl rk tb tk at_ ltr on_ tw th nu) (wX8 cy a0 a1 a2 a3 a4 a5 a6 st gr hi gh rc tx tl rk tb tk at_ ltr on_ tw th nu) r := by
  intro hz
  refine x_start (Qc := xQi D cy _ r) (cc := cX8_of) (maxL := 4) (ret := (some .int)) (by decide) rfl (Nat.le_of_ble_eq_true rfl) (lv := [(0, .ref a0), (1, .int p1), (2, .int p2)]) rfl ?_
  intro p e s m below meth c ls A hx hb hr hml hown hts hlocks hK hP hD hS hA hN hl
  have hown : s.vm.findClass RX8 = some m.cls := hown
  have hbg : ∀ w ∈ wsL_law, w ∈ aX8_of := fun w h => List.mem_cons_of_mem _ h
  unfold fX8_of at hf
  refine lv_aload_n hx hb dX8_of_0 rfl (lv_at hl 0 rfl) ?_
  refine lv_iload_n hx hb dX8_of_1 rfl (lv_at hl 1 rfl) ?_
  obtain ⟨r_1, h_2, hf⟩ := bd1_el hf
  refine x_callVi (As := [.int p1]) (rest := []) ⟨hx, hb, hml, hown, hts⟩ (mX8_find l D cy a0 a1 a2 a3 a4 a5 a6 st gr hi gh rc tx tl rk tb tk at_ ltr on_ tw th nu p1 r_1 h_2) (cwV 1 hts (gcV_X8_find hbg wm_9_5) rfl rfl rfl kdX8_find ⟨Nat.le_of_ble_eq_true rfl, Nat.le_of_ble_eq_true rfl⟩) (w1 := []) (w2 := []) (w' := wX8 cy a0 a1 a2 a3 a4 a5 a6 st gr hi gh rc tx tl rk tb tk at_ ltr on_ tw th nu) (List.append_nil _) (List.append_nil _) hP hK hD hN hS hA (q0 := 0) rfl rfl rfl rfl hl rfl (Nat.le_of_ble_eq_true rfl) dX8_of_2 ⟨Nat.zero_le _, Nat.zero_le _⟩ (fun H locs hP hD hS => ?_)
  refine lv_istore_n (lv' := [(3, .int r_1), (0, .ref a0), (1, .int p1), (2, .int p2)]) hx hb dX8_of_5 rfl hl (by decide) rfl (fun ls hl => ?_)
  refine lv_iload_n hx hb dX8_of_6 rfl (lv_at hl 0 rfl) ?_
  refine lv_bipush (v := (-6)) hx hb dX8_of_7 (by decide) ?_
  refine lv_icmp_ne (tgt := 14) hx hb dX8_of_9 (by decide) (fun c_3 => ?_) (fun c_3 => ?_)
  · have hf := x_f c_3 hf
    refine lv_iload_n hx hb dX8_of_14 rfl (lv_at hl 3 rfl) ?_
    refine lv_iconst (v := 0) hx hb dX8_of_15 (by decide) ?_
    refine lv_bipush (v := 7) hx hb dX8_of_16 (by decide) ?_
    obtain ⟨r_4, h_5, hf⟩ := bd1_el hf
    refine x_callSi (As := [.int p2, .int 0, .int 7]) (rest := []) ⟨hx, hb, hml, hown, hts⟩ (mX8_within l D cy   p2 0 7 r_4 h_5) (va_cwS 3 hts (gcS_X8_within hbg wm_7_0) rfl rfl rfl kdX8_within ⟨Nat.le_of_ble_eq_true rfl, Nat.le_of_ble_eq_true rfl⟩) (w1 := []) (w2 := wX8 cy a0 a1 a2 a3 a4 a5 a6 st gr hi gh rc tx tl rk tb tk at_ ltr on_ tw th nu) (w' := wX8 cy a0 a1 a2 a3 a4 a5 a6 st gr hi gh rc tx tl rk tb tk at_ ltr on_ tw th nu) rfl rfl hP hK hD hN hS hA rfl hl rfl (Nat.le_of_ble_eq_true rfl) dX8_of_18 ⟨Nat.zero_le _, Nat.zero_le _⟩ (fun H locs hP hD hS => ?_)
    refine lv_if_eq (tgt := 33) hx hb dX8_of_21 (by decide) (fun c_6 => ?_) (fun c_6 => ?_)
    · have hf := x_t c_6 hf
      refine lv_bipush (v := (-2)) hx hb dX8_of_33 (by decide) ?_
      have hf := Option.some.inj hf
      cases hf
      exact x_iret hx hb hr hlocks hK hP hD hS dX8_of_35
    · have hf := x_f c_6 hf
      refine lv_aload_n hx hb dX8_of_24 rfl (lv_at hl 1 rfl) ?_
      refine lv_iload_n hx hb dX8_of_25 rfl (lv_at hl 0 rfl) ?_
      refine lv_iload_n hx hb dX8_of_26 rfl (lv_at hl 3 rfl) ?_
      obtain ⟨r_7, h_8, hf⟩ := bd1_el hf
      refine x_callVi (As := [.int r_1, .int p2]) (rest := []) ⟨hx, hb, hml, hown, hts⟩ (mX8_ofClient l D cy a0 a1 a2 a3 a4 a5 a6 st gr hi gh rc tx tl rk tb tk at_ ltr on_ tw th nu r_1 p2 r_7 h_8) (cwV 2 hts (gcV_X8_ofClient hbg wm_29_1) rfl rfl rfl kdX8_ofClient ⟨Nat.le_of_ble_eq_true rfl, Nat.le_of_ble_eq_true rfl⟩) (w1 := []) (w2 := []) (w' := wX8 cy a0 a1 a2 a3 a4 a5 a6 st gr hi gh rc tx tl rk tb tk at_ ltr on_ tw th nu) (List.append_nil _) (List.append_nil _) hP hK hD hN hS hA (q0 := 0) rfl rfl rfl rfl hl rfl (Nat.le_of_ble_eq_true rfl) dX8_of_27 ⟨Nat.zero_le _, Nat.zero_le _⟩ (fun H locs hP hD hS => ?_)
      refine lv_goto (tgt := 35) hx hb dX8_of_30 (by decide) ?_
      have hf := Option.some.inj hf
      cases hf
      exact x_iret hx hb hr hlocks hK hP hD hS dX8_of_35
  · have hf := x_t c_3 hf
    refine lv_iconst (v := (-1)) hx hb dX8_of_12 (by decide) ?_
    have hf := Option.some.inj hf
    cases hf
    exact x_iret hx hb hr hlocks hK hP hD hS dX8_of_13
theorem kdX8_holdOf : yX8_holdOf.cls = RX8 ∧ yX8_holdOf.cls ≠ "java/lang/invoke/MethodHandle" ∧ yX8_holdOf.cls ≠ "java/lang/invoke/VarHandle" ∧ (parseMethodDescriptor yX8_holdOf.desc).map (fun d => d.parameters.length) = some 2 := by decide +kernel
def rmX8_holdOf : Room := { frames := 2, cells := 0, slots := 0, locals := 45 }
set_option maxHeartbeats 4000000 in
set_option maxRecDepth 100000 in
theorem mX8_holdOf (l : Launch) (D : va_G) (cy : Nat → ClassId) (a0 a1 a2 a3 a4 a5 a6 : Nat) (st : Nat → Int32) (gr : Nat → Int64) (hi : Nat → Int32) (gh : Nat → Int64) (rc : Int32) (tx : Nat → Int32) (tl : Int32) (rk : Nat → Int32) (tb : Int32) (tk : Int64) (at_ : Int32) (ltr : Int32) (on_ : Int32) (tw : Int32) (th : Int32) (nu : Int32) (p1 : Int32) (p2 : Int32) (r : Int32) (hf : fX8_holdOf st p1 p2 = some r) : xMi l D cy yX8_holdOf aX8_holdOf rmX8_holdOf ([.ref a0, .int p1, .int p2] : List Value) (wX8 cy a0 a1 a2 a3 a4 a5 a6 st gr hi gh rc tx tl rk tb tk at_ ltr on_ tw th nu) (wX8 cy a0 a1 a2 a3 a4 a5 a6 st gr hi gh rc tx tl rk tb tk at_ ltr on_ tw th nu) r := by
  intro hz
  refine x_start (Qc := xQi D cy _ r) (cc := cX8_holdOf) (maxL := 4) (ret := (some .int)) (by decide) rfl (Nat.le_of_ble_eq_true rfl) (lv := [(0, .ref a0), (1, .int p1), (2, .int p2)]) rfl ?_
  intro p e s m below meth c ls A hx hb hr hml hown hts hlocks hK hP hD hS hA hN hl
  have hown : s.vm.findClass RX8 = some m.cls := hown
  have hbg : ∀ w ∈ wsL_law, w ∈ aX8_holdOf := fun w h => List.mem_cons_of_mem _ h
  unfold fX8_holdOf at hf
  refine lv_aload_n hx hb dX8_holdOf_0 rfl (lv_at hl 0 rfl) ?_
  refine lv_iload_n hx hb dX8_holdOf_1 rfl (lv_at hl 1 rfl) ?_
  obtain ⟨r_1, h_2, hf⟩ := bd1_el hf
  refine x_callVi (As := [.int p1]) (rest := []) ⟨hx, hb, hml, hown, hts⟩ (mX8_findHold l D cy a0 a1 a2 a3 a4 a5 a6 st gr hi gh rc tx tl rk tb tk at_ ltr on_ tw th nu p1 r_1 h_2) (cwV 1 hts (gcV_X8_findHold hbg wm_18_18) rfl rfl rfl kdX8_findHold ⟨Nat.le_of_ble_eq_true rfl, Nat.le_of_ble_eq_true rfl⟩) (w1 := []) (w2 := []) (w' := wX8 cy a0 a1 a2 a3 a4 a5 a6 st gr hi gh rc tx tl rk tb tk at_ ltr on_ tw th nu) (List.append_nil _) (List.append_nil _) hP hK hD hN hS hA (q0 := 0) rfl rfl rfl rfl hl rfl (Nat.le_of_ble_eq_true rfl) dX8_holdOf_2 ⟨Nat.zero_le _, Nat.zero_le _⟩ (fun H locs hP hD hS => ?_)
  refine lv_istore_n (lv' := [(3, .int r_1), (0, .ref a0), (1, .int p1), (2, .int p2)]) hx hb dX8_holdOf_5 rfl hl (by decide) rfl (fun ls hl => ?_)
  refine lv_iload_n hx hb dX8_holdOf_6 rfl (lv_at hl 0 rfl) ?_
  refine lv_bipush (v := (-6)) hx hb dX8_holdOf_7 (by decide) ?_
  refine lv_icmp_ne (tgt := 14) hx hb dX8_holdOf_9 (by decide) (fun c_3 => ?_) (fun c_3 => ?_)
  · have hf := x_f c_3 hf
    refine lv_iload_n hx hb dX8_holdOf_14 rfl (lv_at hl 3 rfl) ?_
    refine lv_iconst (v := 0) hx hb dX8_holdOf_15 (by decide) ?_
    refine lv_iconst (v := 2) hx hb dX8_holdOf_16 (by decide) ?_
    obtain ⟨r_4, h_5, hf⟩ := bd1_el hf
    refine x_callSi (As := [.int p2, .int 0, .int 2]) (rest := []) ⟨hx, hb, hml, hown, hts⟩ (mX8_within l D cy   p2 0 2 r_4 h_5) (va_cwS 3 hts (gcS_X8_within hbg wm_7_0) rfl rfl rfl kdX8_within ⟨Nat.le_of_ble_eq_true rfl, Nat.le_of_ble_eq_true rfl⟩) (w1 := []) (w2 := wX8 cy a0 a1 a2 a3 a4 a5 a6 st gr hi gh rc tx tl rk tb tk at_ ltr on_ tw th nu) (w' := wX8 cy a0 a1 a2 a3 a4 a5 a6 st gr hi gh rc tx tl rk tb tk at_ ltr on_ tw th nu) rfl rfl hP hK hD hN hS hA rfl hl rfl (Nat.le_of_ble_eq_true rfl) dX8_holdOf_17 ⟨Nat.zero_le _, Nat.zero_le _⟩ (fun H locs hP hD hS => ?_)
    refine lv_if_eq (tgt := 34) hx hb dX8_holdOf_20 (by decide) (fun c_6 => ?_) (fun c_6 => ?_)
    · have hf := x_t c_6 hf
      refine lv_bipush (v := (-2)) hx hb dX8_holdOf_34 (by decide) ?_
      have hf := Option.some.inj hf
      cases hf
      exact x_iret hx hb hr hlocks hK hP hD hS dX8_holdOf_36
    · have hf := x_f c_6 hf
      refine lv_aload_n hx hb dX8_holdOf_23 rfl (lv_at hl 1 rfl) ?_
      refine lv_iload_n hx hb dX8_holdOf_24 rfl (lv_at hl 0 rfl) ?_
      refine lv_iconst (v := 1) hx hb dX8_holdOf_25 (by decide) ?_
      refine lv_iload_n hx hb dX8_holdOf_26 rfl (lv_at hl 3 rfl) ?_
      refine lv_iadd hx hb dX8_holdOf_27 ?_
      obtain ⟨r_7, h_8, hf⟩ := bd1_el hf
      refine x_callVi (As := [.int r_1, .int (1 + p2)]) (rest := []) ⟨hx, hb, hml, hown, hts⟩ (mX8_holdPart l D cy a0 a1 a2 a3 a4 a5 a6 st gr hi gh rc tx tl rk tb tk at_ ltr on_ tw th nu r_1 (1 + p2) r_7 h_8) (cwV 2 hts (gcV_X8_holdPart hbg wm_15_20) rfl rfl rfl kdX8_holdPart ⟨Nat.le_of_ble_eq_true rfl, Nat.le_of_ble_eq_true rfl⟩) (w1 := []) (w2 := []) (w' := wX8 cy a0 a1 a2 a3 a4 a5 a6 st gr hi gh rc tx tl rk tb tk at_ ltr on_ tw th nu) (List.append_nil _) (List.append_nil _) hP hK hD hN hS hA (q0 := 0) rfl rfl rfl rfl hl rfl (Nat.le_of_ble_eq_true rfl) dX8_holdOf_28 ⟨Nat.zero_le _, Nat.zero_le _⟩ (fun H locs hP hD hS => ?_)
      refine lv_goto (tgt := 36) hx hb dX8_holdOf_31 (by decide) ?_
      have hf := Option.some.inj hf
      cases hf
      exact x_iret hx hb hr hlocks hK hP hD hS dX8_holdOf_36
  · have hf := x_t c_3 hf
    refine lv_iconst (v := (-1)) hx hb dX8_holdOf_12 (by decide) ?_
    have hf := Option.some.inj hf
    cases hf
    exact x_iret hx hb hr hlocks hK hP hD hS dX8_holdOf_13
theorem kdX8_billOf : yX8_billOf.cls = RX8 ∧ yX8_billOf.cls ≠ "java/lang/invoke/MethodHandle" ∧ yX8_billOf.cls ≠ "java/lang/invoke/VarHandle" ∧ (parseMethodDescriptor yX8_billOf.desc).map (fun d => d.parameters.length) = some 2 := by decide +kernel
def rmX8_billOf : Room := { frames := 2, cells := 0, slots := 0, locals := 45 }
set_option maxHeartbeats 4000000 in
set_option maxRecDepth 100000 in
theorem mX8_billOf (l : Launch) (D : va_G) (cy : Nat → ClassId) (a0 a1 a2 a3 a4 a5 a6 : Nat) (st : Nat → Int32) (gr : Nat → Int64) (hi : Nat → Int32) (gh : Nat → Int64) (rc : Int32) (tx : Nat → Int32) (tl : Int32) (rk : Nat → Int32) (tb : Int32) (tk : Int64) (at_ : Int32) (ltr : Int32) (on_ : Int32) (tw : Int32) (th : Int32) (nu : Int32) (p1 : Int32) (p2 : Int32) (r : Int32) (hf : fX8_billOf st p1 p2 = some r) : xMi l D cy yX8_billOf aX8_billOf rmX8_billOf ([.ref a0, .int p1, .int p2] : List Value) (wX8 cy a0 a1 a2 a3 a4 a5 a6 st gr hi gh rc tx tl rk tb tk at_ ltr on_ tw th nu) (wX8 cy a0 a1 a2 a3 a4 a5 a6 st gr hi gh rc tx tl rk tb tk at_ ltr on_ tw th nu) r := by
  intro hz
  refine x_start (Qc := xQi D cy _ r) (cc := cX8_billOf) (maxL := 4) (ret := (some .int)) (by decide) rfl (Nat.le_of_ble_eq_true rfl) (lv := [(0, .ref a0), (1, .int p1), (2, .int p2)]) rfl ?_
  intro p e s m below meth c ls A hx hb hr hml hown hts hlocks hK hP hD hS hA hN hl
  have hown : s.vm.findClass RX8 = some m.cls := hown
  have hbg : ∀ w ∈ wsL_law, w ∈ aX8_billOf := fun w h => List.mem_cons_of_mem _ h
  unfold fX8_billOf at hf
  refine lv_aload_n hx hb dX8_billOf_0 rfl (lv_at hl 0 rfl) ?_
  refine lv_iload_n hx hb dX8_billOf_1 rfl (lv_at hl 1 rfl) ?_
  obtain ⟨r_1, h_2, hf⟩ := bd1_el hf
  refine x_callVi (As := [.int p1]) (rest := []) ⟨hx, hb, hml, hown, hts⟩ (mX8_findBill l D cy a0 a1 a2 a3 a4 a5 a6 st gr hi gh rc tx tl rk tb tk at_ ltr on_ tw th nu p1 r_1 h_2) (cwV 1 hts (gcV_X8_findBill hbg wm_20_20) rfl rfl rfl kdX8_findBill ⟨Nat.le_of_ble_eq_true rfl, Nat.le_of_ble_eq_true rfl⟩) (w1 := []) (w2 := []) (w' := wX8 cy a0 a1 a2 a3 a4 a5 a6 st gr hi gh rc tx tl rk tb tk at_ ltr on_ tw th nu) (List.append_nil _) (List.append_nil _) hP hK hD hN hS hA (q0 := 0) rfl rfl rfl rfl hl rfl (Nat.le_of_ble_eq_true rfl) dX8_billOf_2 ⟨Nat.zero_le _, Nat.zero_le _⟩ (fun H locs hP hD hS => ?_)
  refine lv_istore_n (lv' := [(3, .int r_1), (0, .ref a0), (1, .int p1), (2, .int p2)]) hx hb dX8_billOf_5 rfl hl (by decide) rfl (fun ls hl => ?_)
  refine lv_iload_n hx hb dX8_billOf_6 rfl (lv_at hl 0 rfl) ?_
  refine lv_bipush (v := (-6)) hx hb dX8_billOf_7 (by decide) ?_
  refine lv_icmp_ne (tgt := 14) hx hb dX8_billOf_9 (by decide) (fun c_3 => ?_) (fun c_3 => ?_)
  · have hf := x_f c_3 hf
    refine lv_iload_n hx hb dX8_billOf_14 rfl (lv_at hl 3 rfl) ?_
    refine lv_iconst (v := 0) hx hb dX8_billOf_15 (by decide) ?_
    refine lv_iconst (v := 2) hx hb dX8_billOf_16 (by decide) ?_
    obtain ⟨r_4, h_5, hf⟩ := bd1_el hf
    refine x_callSi (As := [.int p2, .int 0, .int 2]) (rest := []) ⟨hx, hb, hml, hown, hts⟩ (mX8_within l D cy   p2 0 2 r_4 h_5) (va_cwS 3 hts (gcS_X8_within hbg wm_7_0) rfl rfl rfl kdX8_within ⟨Nat.le_of_ble_eq_true rfl, Nat.le_of_ble_eq_true rfl⟩) (w1 := []) (w2 := wX8 cy a0 a1 a2 a3 a4 a5 a6 st gr hi gh rc tx tl rk tb tk at_ ltr on_ tw th nu) (w' := wX8 cy a0 a1 a2 a3 a4 a5 a6 st gr hi gh rc tx tl rk tb tk at_ ltr on_ tw th nu) rfl rfl hP hK hD hN hS hA rfl hl rfl (Nat.le_of_ble_eq_true rfl) dX8_billOf_17 ⟨Nat.zero_le _, Nat.zero_le _⟩ (fun H locs hP hD hS => ?_)
    refine lv_if_eq (tgt := 34) hx hb dX8_billOf_20 (by decide) (fun c_6 => ?_) (fun c_6 => ?_)
    · have hf := x_t c_6 hf
      refine lv_bipush (v := (-2)) hx hb dX8_billOf_34 (by decide) ?_
      have hf := Option.some.inj hf
      cases hf
      exact x_iret hx hb hr hlocks hK hP hD hS dX8_billOf_36
    · have hf := x_f c_6 hf
      refine lv_aload_n hx hb dX8_billOf_23 rfl (lv_at hl 1 rfl) ?_
      refine lv_iload_n hx hb dX8_billOf_24 rfl (lv_at hl 0 rfl) ?_
      refine lv_iconst (v := 1) hx hb dX8_billOf_25 (by decide) ?_
      refine lv_iload_n hx hb dX8_billOf_26 rfl (lv_at hl 3 rfl) ?_
      refine lv_iadd hx hb dX8_billOf_27 ?_
      obtain ⟨r_7, h_8, hf⟩ := bd1_el hf
      refine x_callVi (As := [.int r_1, .int (1 + p2)]) (rest := []) ⟨hx, hb, hml, hown, hts⟩ (mX8_billPart l D cy a0 a1 a2 a3 a4 a5 a6 st gr hi gh rc tx tl rk tb tk at_ ltr on_ tw th nu r_1 (1 + p2) r_7 h_8) (cwV 2 hts (gcV_X8_billPart hbg wm_11_1) rfl rfl rfl kdX8_billPart ⟨Nat.le_of_ble_eq_true rfl, Nat.le_of_ble_eq_true rfl⟩) (w1 := []) (w2 := []) (w' := wX8 cy a0 a1 a2 a3 a4 a5 a6 st gr hi gh rc tx tl rk tb tk at_ ltr on_ tw th nu) (List.append_nil _) (List.append_nil _) hP hK hD hN hS hA (q0 := 0) rfl rfl rfl rfl hl rfl (Nat.le_of_ble_eq_true rfl) dX8_billOf_28 ⟨Nat.zero_le _, Nat.zero_le _⟩ (fun H locs hP hD hS => ?_)
      refine lv_goto (tgt := 36) hx hb dX8_billOf_31 (by decide) ?_
      have hf := Option.some.inj hf
      cases hf
      exact x_iret hx hb hr hlocks hK hP hD hS dX8_billOf_36
  · have hf := x_t c_3 hf
    refine lv_iconst (v := (-1)) hx hb dX8_billOf_12 (by decide) ?_
    have hf := Option.some.inj hf
    cases hf
    exact x_iret hx hb hr hlocks hK hP hD hS dX8_billOf_13
theorem kdX8_entries : yX8_entries.cls = RX8 ∧ yX8_entries.cls ≠ "java/lang/invoke/MethodHandle" ∧ yX8_entries.cls ≠ "java/lang/invoke/VarHandle" ∧ (parseMethodDescriptor yX8_entries.desc).map (fun d => d.parameters.length) = some 0 := by decide +kernel
def rmX8_entries : Room := { frames := 0, cells := 0, slots := 0, locals := 0 }
set_option maxHeartbeats 4000000 in
set_option maxRecDepth 100000 in
theorem mX8_entries (l : Launch) (D : va_G) (cy : Nat → ClassId) (a0 a1 a2 a3 a4 a5 a6 : Nat) (st : Nat → Int32) (gr : Nat → Int64) (hi : Nat → Int32) (gh : Nat → Int64) (rc : Int32) (tx : Nat → Int32) (tl : Int32) (rk : Nat → Int32) (tb : Int32) (tk : Int64) (at_ : Int32) (ltr : Int32) (on_ : Int32) (tw : Int32) (th : Int32) (nu : Int32)  (r : Int32) (hf : fX8_entries st = some r) : xMi l D cy yX8_entries aX8_entries rmX8_entries ([.ref a0] : List Value) (wX8 cy a0 a1 a2 a3 a4 a5 a6 st gr hi gh rc tx tl rk tb tk at_ ltr on_ tw th nu) (wX8 cy a0 a1 a2 a3 a4 a5 a6 st gr hi gh rc tx tl rk tb tk at_ ltr on_ tw th nu) r := by
  intro hz
  refine x_start (Qc := xQi D cy _ r) (cc := cX8_entries) (maxL := 1) (ret := (some .int)) (by decide) rfl (Nat.le_of_ble_eq_true rfl) (lv := [(0, .ref a0)]) rfl ?_
  intro p e s m below meth c ls A hx hb hr hml hown hts hlocks hK hP hD hS hA hN hl
  have hown : s.vm.findClass RX8 = some m.cls := hown
  have hbg : ∀ w ∈ wsL_law, w ∈ aX8_entries := fun w h => List.mem_cons_of_mem _ h
  have wd0 : (Cond.fieldLink RX8 7 "ClientMoneyBookModel" "state" "[I").before ([.ref a0] : List Value).toArray s = true := hts _ (List.mem_cons_of_mem _ wm_4_9)
  have iX8 : ∀ w ∈ u_ws RX8 TX8 16, w ∈ aX8_entries := fun w h => List.mem_cons_of_mem _ (inlX8 w h)
  unfold fX8_entries at hf
  refine lv_aload_n hx hb dX8_entries_0 rfl (lv_at hl 0 rfl) ?_
  refine x_get hx hb (C := RX8) (T := TX8) (N := 16) (ci := 8) hts iX8 hown hK hP 0 rfl rfl 0 (by decide) wd0 rfl (.ref a1) rfl dX8_entries_1 ?_
  refine lv_bipush (v := 10) hx hb dX8_entries_4 (by decide) ?_
  obtain ⟨hi_1, hf⟩ := ckI_el hf
  refine va_iald hx hb hK hP 1 1 rfl rfl hi_1 dX8_entries_6 ?_
  have hf := Option.some.inj hf
  cases hf
  exact x_iret hx hb hr hlocks hK hP hD hS dX8_entries_7
theorem kdX8_entry : yX8_entry.cls = RX8 ∧ yX8_entry.cls ≠ "java/lang/invoke/MethodHandle" ∧ yX8_entry.cls ≠ "java/lang/invoke/VarHandle" ∧ (parseMethodDescriptor yX8_entry.desc).map (fun d => d.parameters.length) = some 2 := by decide +kernel
def rmX8_entry : Room := { frames := 2, cells := 0, slots := 0, locals := 43 }
set_option maxHeartbeats 4000000 in
set_option maxRecDepth 100000 in
theorem mX8_entry (l : Launch) (D : va_G) (cy : Nat → ClassId) (a0 a1 a2 a3 a4 a5 a6 : Nat) (st : Nat → Int32) (gr : Nat → Int64) (hi : Nat → Int32) (gh : Nat → Int64) (rc : Int32) (tx : Nat → Int32) (tl : Int32) (rk : Nat → Int32) (tb : Int32) (tk : Int64) (at_ : Int32) (ltr : Int32) (on_ : Int32) (tw : Int32) (th : Int32) (nu : Int32) (p1 : Int32) (p2 : Int32) (r : Int32) (hf : fX8_entry st p1 p2 = some r) : xMi l D cy yX8_entry aX8_entry rmX8_entry ([.ref a0, .int p1, .int p2] : List Value) (wX8 cy a0 a1 a2 a3 a4 a5 a6 st gr hi gh rc tx tl rk tb tk at_ ltr on_ tw th nu) (wX8 cy a0 a1 a2 a3 a4 a5 a6 st gr hi gh rc tx tl rk tb tk at_ ltr on_ tw th nu) r := by
  intro hz
  refine x_start (Qc := xQi D cy _ r) (cc := cX8_entry) (maxL := 3) (ret := (some .int)) (by decide) rfl (Nat.le_of_ble_eq_true rfl) (lv := [(0, .ref a0), (1, .int p1), (2, .int p2)]) rfl ?_
  intro p e s m below meth c ls A hx hb hr hml hown hts hlocks hK hP hD hS hA hN hl
  have hown : s.vm.findClass RX8 = some m.cls := hown
  have hbg : ∀ w ∈ wsL_law, w ∈ aX8_entry := fun w h => List.mem_cons_of_mem _ h
  unfold fX8_entry at hf
  refine lv_aload_n hx hb dX8_entry_0 rfl (lv_at hl 0 rfl) ?_
  refine lv_iload_n hx hb dX8_entry_1 rfl (lv_at hl 1 rfl) ?_
  obtain ⟨r_1, h_2, hf⟩ := bd1_el hf
  refine x_callVi (As := [.int p1]) (rest := []) ⟨hx, hb, hml, hown, hts⟩ (mX8_isEntry l D cy a0 a1 a2 a3 a4 a5 a6 st gr hi gh rc tx tl rk tb tk at_ ltr on_ tw th nu p1 r_1 h_2) (cwV 1 hts (gcV_X8_isEntry hbg wm_25_10) rfl rfl rfl kdX8_isEntry ⟨Nat.le_of_ble_eq_true rfl, Nat.le_of_ble_eq_true rfl⟩) (w1 := []) (w2 := []) (w' := wX8 cy a0 a1 a2 a3 a4 a5 a6 st gr hi gh rc tx tl rk tb tk at_ ltr on_ tw th nu) (List.append_nil _) (List.append_nil _) hP hK hD hN hS hA (q0 := 0) rfl rfl rfl rfl hl rfl (Nat.le_of_ble_eq_true rfl) dX8_entry_2 ⟨Nat.zero_le _, Nat.zero_le _⟩ (fun H locs hP hD hS => ?_)
  refine lv_if_ne (tgt := 10) hx hb dX8_entry_5 (by decide) (fun c_3 => ?_) (fun c_3 => ?_)
  · have hf := x_f c_3 hf
    refine lv_iload_n hx hb dX8_entry_10 rfl (lv_at hl 2 rfl) ?_
    refine lv_iconst (v := 0) hx hb dX8_entry_11 (by decide) ?_
    refine lv_bipush (v := 6) hx hb dX8_entry_12 (by decide) ?_
    obtain ⟨r_4, h_5, hf⟩ := bd1_el hf
    refine x_callSi (As := [.int p2, .int 0, .int 6]) (rest := []) ⟨hx, hb, hml, hown, hts⟩ (mX8_within l D cy   p2 0 6 r_4 h_5) (va_cwS 3 hts (gcS_X8_within hbg wm_7_0) rfl rfl rfl kdX8_within ⟨Nat.le_of_ble_eq_true rfl, Nat.le_of_ble_eq_true rfl⟩) (w1 := []) (w2 := wX8 cy a0 a1 a2 a3 a4 a5 a6 st gr hi gh rc tx tl rk tb tk at_ ltr on_ tw th nu) (w' := wX8 cy a0 a1 a2 a3 a4 a5 a6 st gr hi gh rc tx tl rk tb tk at_ ltr on_ tw th nu) rfl rfl hP hK hD hN hS hA rfl hl rfl (Nat.le_of_ble_eq_true rfl) dX8_entry_14 ⟨Nat.zero_le _, Nat.zero_le _⟩ (fun H locs hP hD hS => ?_)
    refine lv_if_eq (tgt := 29) hx hb dX8_entry_17 (by decide) (fun c_6 => ?_) (fun c_6 => ?_)
    · have hf := x_t c_6 hf
      refine lv_bipush (v := (-2)) hx hb dX8_entry_29 (by decide) ?_
      have hf := Option.some.inj hf
      cases hf
      exact x_iret hx hb hr hlocks hK hP hD hS dX8_entry_31
    · have hf := x_f c_6 hf
      refine lv_aload_n hx hb dX8_entry_20 rfl (lv_at hl 0 rfl) ?_
      refine lv_iload_n hx hb dX8_entry_21 rfl (lv_at hl 1 rfl) ?_
      refine lv_iload_n hx hb dX8_entry_22 rfl (lv_at hl 2 rfl) ?_
      obtain ⟨r_7, h_8, hf⟩ := bd1_el hf
      refine x_callVi (As := [.int p1, .int p2]) (rest := []) ⟨hx, hb, hml, hown, hts⟩ (mX8_entryPart l D cy a0 a1 a2 a3 a4 a5 a6 st gr hi gh rc tx tl rk tb tk at_ ltr on_ tw th nu p1 p2 r_7 h_8) (cwV 2 hts (gcV_X8_entryPart hbg wm_25_18) rfl rfl rfl kdX8_entryPart ⟨Nat.le_of_ble_eq_true rfl, Nat.le_of_ble_eq_true rfl⟩) (w1 := []) (w2 := []) (w' := wX8 cy a0 a1 a2 a3 a4 a5 a6 st gr hi gh rc tx tl rk tb tk at_ ltr on_ tw th nu) (List.append_nil _) (List.append_nil _) hP hK hD hN hS hA (q0 := 0) rfl rfl rfl rfl hl rfl (Nat.le_of_ble_eq_true rfl) dX8_entry_23 ⟨Nat.zero_le _, Nat.zero_le _⟩ (fun H locs hP hD hS => ?_)
      refine lv_goto (tgt := 31) hx hb dX8_entry_26 (by decide) ?_
      have hf := Option.some.inj hf
      cases hf
      exact x_iret hx hb hr hlocks hK hP hD hS dX8_entry_31
  · have hf := x_t c_3 hf
    refine lv_iconst (v := (-1)) hx hb dX8_entry_8 (by decide) ?_
    have hf := Option.some.inj hf
    cases hf
    exact x_iret hx hb hr hlocks hK hP hD hS dX8_entry_9
theorem kdX8_sumOf : yX8_sumOf.cls = RX8 ∧ yX8_sumOf.cls ≠ "java/lang/invoke/MethodHandle" ∧ yX8_sumOf.cls ≠ "java/lang/invoke/VarHandle" ∧ (parseMethodDescriptor yX8_sumOf.desc).map (fun d => d.parameters.length) = some 1 := by decide +kernel
def rmX8_sumOf : Room := { frames := 3, cells := 0, slots := 0, locals := 67 }
set_option maxHeartbeats 4000000 in
set_option maxRecDepth 100000 in
theorem mX8_sumOf (l : Launch) (D : va_G) (cy : Nat → ClassId) (a0 a1 a2 a3 a4 a5 a6 : Nat) (st : Nat → Int32) (gr : Nat → Int64) (hi : Nat → Int32) (gh : Nat → Int64) (rc : Int32) (tx : Nat → Int32) (tl : Int32) (rk : Nat → Int32) (tb : Int32) (tk : Int64) (at_ : Int32) (ltr : Int32) (on_ : Int32) (tw : Int32) (th : Int32) (nu : Int32) (p1 : Int32) (r : Int64) (hf : fX8_sumOf st gr p1 = some r) : xMl l D cy yX8_sumOf aX8_sumOf rmX8_sumOf ([.ref a0, .int p1] : List Value) (wX8 cy a0 a1 a2 a3 a4 a5 a6 st gr hi gh rc tx tl rk tb tk at_ ltr on_ tw th nu) (wX8 cy a0 a1 a2 a3 a4 a5 a6 st gr hi gh rc tx tl rk tb tk at_ ltr on_ tw th nu) r := by
  intro hz
  refine x_start (Qc := xQl D cy _ r) (cc := cX8_sumOf) (maxL := 5) (ret := (some .long)) (by decide) rfl (Nat.le_of_ble_eq_true rfl) (lv := [(0, .ref a0), (1, .int p1)]) rfl ?_
  intro p e s m below meth c ls A hx hb hr hml hown hts hlocks hK hP hD hS hA hN hl
  have hown : s.vm.findClass RX8 = some m.cls := hown
  have hbg : ∀ w ∈ wsL_law, w ∈ aX8_sumOf := fun w h => List.mem_cons_of_mem _ h
  have wd0 : (Cond.fieldLink RX8 7 "ClientMoneyBookModel" "state" "[I").before ([.ref a0, .int p1] : List Value).toArray s = true := hts _ (List.mem_cons_of_mem _ wm_4_9)
  have wd1 : (Cond.fieldLink RX8 13 "ClientMoneyBookModel" "great" "[J").before ([.ref a0, .int p1] : List Value).toArray s = true := hts _ (List.mem_cons_of_mem _ wm_4_10)
  have iX8 : ∀ w ∈ u_ws RX8 TX8 16, w ∈ aX8_sumOf := fun w h => List.mem_cons_of_mem _ (inlX8 w h)
  unfold fX8_sumOf at hf
  refine lv_iload_n hx hb dX8_sumOf_0 rfl (lv_at hl 1 rfl) ?_
  refine lv_iconst (v := 2) hx hb dX8_sumOf_1 (by decide) ?_
  refine lv_icmp_lt (tgt := 17) hx hb dX8_sumOf_2 (by decide) (fun c_1 => ?_) (fun c_1 => ?_)
  · have hf := x_t c_1 hf
    refine lv_lconst (v := 0) hx hb dX8_sumOf_17 (by decide) ?_
    refine lv_lstore_n (lv' := [(2, .long 0), (0, .ref a0), (1, .int p1)]) hx hb dX8_sumOf_18 rfl hl (by decide) rfl (fun ls hl => ?_)
    refine lv_iconst (v := 0) hx hb dX8_sumOf_19 (by decide) ?_
    refine lv_istore (lv' := [(4, .int 0), (2, .long 0), (0, .ref a0), (1, .int p1)]) hx hb dX8_sumOf_20 hl (by decide) rfl (fun ls hl => ?_)
    have hL_22 : ∀ (n : Nat) (z2_12 : Int64) (z4_13 : Int32) (o : Int64) (H : Heap) (locs : List Loc) (ls : Array Slot), fX8_sumOf_L22 st p1 n z2_12 z4_13 = some o → va_P D vwCl (wX8 cy a0 a1 a2 a3 a4 a5 a6 st gr hi gh rc tx tl rk tb tk at_ ltr on_ tw th nu) H → va_D A (wX8 cy a0 a1 a2 a3 a4 a5 a6 st gr hi gh rc tx tl rk tb tk at_ ltr on_ tw th nu) → va_S A s.heap H locs → lv_has ls 5 [(0, .ref a0), (1, .int p1), (2, .long z2_12), (4, .int z4_13)] → True → ((∀ (x2_14 : Int64) , o = x2_14 → ∀ (H : Heap) (locs : List Loc) (ls : Array Slot), va_P D vwCl (wX8 cy a0 a1 a2 a3 a4 a5 a6 st gr hi gh rc tx tl rk tb tk at_ ltr on_ tw th nu) H → va_D A (wX8 cy a0 a1 a2 a3 a4 a5 a6 st gr hi gh rc tx tl rk tb tk at_ ltr on_ tw th nu) → va_S A s.heap H locs → lv_has ls 5 [(2, .long x2_14)] → W p l e rmX8_sumOf s m ([.ref a0, .int p1] : List Value).toArray below meth c H locs 0 0 (MQ below (xQl D cy (wX8 cy a0 a1 a2 a3 a4 a5 a6 st gr hi gh rc tx tl rk tb tk at_ ltr on_ tw th nu) r A) ([.ref a0, .int p1] : List Value).toArray s 0 0 A) (F0 m 64 ls []))) → W p l e rmX8_sumOf s m ([.ref a0, .int p1] : List Value).toArray below meth c H locs 0 0 (MQ below (xQl D cy (wX8 cy a0 a1 a2 a3 a4 a5 a6 st gr hi gh rc tx tl rk tb tk at_ ltr on_ tw th nu) r A) ([.ref a0, .int p1] : List Value).toArray s 0 0 A) (F0 m 22 ls []) := by
      intro n
      induction n with
      | zero =>
        intro z2_12 z4_13 o_22 H locs ls hf
        rw [fX8_sumOf_L22] at hf
        cases hf
      | succ n ih =>
        intro z2_12 z4_13 o_22 H locs ls hf hP hD hS hl hr_22 kx_22
        rw [fX8_sumOf_L22] at hf
        refine lv_iload hx hb dX8_sumOf_22 (lv_at hl 3 rfl) ?_
        refine lv_aload_n hx hb dX8_sumOf_24 rfl (lv_at hl 0 rfl) ?_
        refine x_get hx hb (C := RX8) (T := TX8) (N := 16) (ci := 8) hts iX8 hown hK hP 0 rfl rfl 0 (by decide) wd0 rfl (.ref a1) rfl dX8_sumOf_25 ?_
        refine lv_iconst (v := 5) hx hb dX8_sumOf_28 (by decide) ?_
        obtain ⟨hi_15, hf⟩ := ckI_el hf
        refine va_iald hx hb hK hP 1 1 rfl rfl hi_15 dX8_sumOf_29 ?_
        refine lv_icmp_ge (tgt := 64) hx hb dX8_sumOf_30 (by decide) (fun c_16 => ?_) (fun c_16 => ?_)
        · have hf := x_t c_16 hf
          exact kx_22 z2_12 (Option.some.inj hf).symm _ _ _ hP hD hS (lv_sub hl [2] rfl)
        · have hf := x_f c_16 hf
          refine lv_lload_n hx hb dX8_sumOf_33 rfl (lv_at hl 2 rfl) ?_
          refine lv_iload_n hx hb dX8_sumOf_34 rfl (lv_at hl 1 rfl) ?_
          refine lv_if_ne (tgt := 49) hx hb dX8_sumOf_35 (by decide) (fun c_17 => ?_) (fun c_17 => ?_)
          · have hf := x_f c_17 hf
            refine lv_aload_n hx hb dX8_sumOf_49 rfl (lv_at hl 0 rfl) ?_
            refine lv_iload hx hb dX8_sumOf_50 (lv_at hl 3 rfl) ?_
            obtain ⟨r_18, h_19, hf⟩ := bd1_el hf
            refine x_callVi (As := [.int z4_13]) (rest := [.long z2_12]) ⟨hx, hb, hml, hown, hts⟩ (mX8_held l D cy a0 a1 a2 a3 a4 a5 a6 st gr hi gh rc tx tl rk tb tk at_ ltr on_ tw th nu z4_13 r_18 h_19) (cwV 1 hts (gcV_X8_held hbg wm_15_12) rfl rfl rfl kdX8_held ⟨Nat.le_of_ble_eq_true rfl, Nat.le_of_ble_eq_true rfl⟩) (w1 := []) (w2 := []) (w' := wX8 cy a0 a1 a2 a3 a4 a5 a6 st gr hi gh rc tx tl rk tb tk at_ ltr on_ tw th nu) (List.append_nil _) (List.append_nil _) hP hK hD hN hS hA (q0 := 0) rfl rfl rfl rfl hl rfl (Nat.le_of_ble_eq_true rfl) dX8_sumOf_52 ⟨Nat.zero_le _, Nat.zero_le _⟩ (fun H locs hP hD hS => ?_)
            refine lv_i2l (v := r_18.toInt64) hx hb dX8_sumOf_55 rfl ?_
            refine lv_ladd hx hb dX8_sumOf_56 ?_
            obtain ⟨x2_20, ex2_20, hf⟩ := lt_el hf
            refine x_topl ex2_20 ?_
            refine lv_lstore_n (lv' := [(2, .long x2_20), (0, .ref a0), (1, .int p1), (4, .int z4_13)]) hx hb dX8_sumOf_57 rfl hl (by decide) rfl (fun ls hl => ?_)
            refine lv_iinc (v := (z4_13 + 1)) (lv' := [(4, .int (z4_13 + 1)), (2, .long x2_20), (0, .ref a0), (1, .int p1)]) hx hb dX8_sumOf_58 hl (k := 3) rfl rfl (by decide) rfl (fun ls hl => ?_)
            refine lv_goto (tgt := 22) hx hb dX8_sumOf_61 (by decide) ?_
            exact ih x2_20 (z4_13 + 1) _ _ _ _ hf hP hD hS (lv_sub hl [2, 3, 1, 0] rfl) hr_22 kx_22
          · have hf := x_t c_17 hf
            refine lv_aload_n hx hb dX8_sumOf_38 rfl (lv_at hl 0 rfl) ?_
            refine lv_iload hx hb dX8_sumOf_39 (lv_at hl 3 rfl) ?_
            refine lv_iconst (v := 1) hx hb dX8_sumOf_41 (by decide) ?_
            obtain ⟨r_21, h_22, hf⟩ := bd1_el hf
            refine x_callVi (As := [.int z4_13, .int 1]) (rest := [.long z2_12]) ⟨hx, hb, hml, hown, hts⟩ (mX8_part l D cy a0 a1 a2 a3 a4 a5 a6 st gr hi gh rc tx tl rk tb tk at_ ltr on_ tw th nu z4_13 1 r_21 h_22) (cwV 2 hts (gcV_X8_part hbg wm_9_9) rfl rfl rfl kdX8_part ⟨Nat.le_of_ble_eq_true rfl, Nat.le_of_ble_eq_true rfl⟩) (w1 := []) (w2 := []) (w' := wX8 cy a0 a1 a2 a3 a4 a5 a6 st gr hi gh rc tx tl rk tb tk at_ ltr on_ tw th nu) (List.append_nil _) (List.append_nil _) hP hK hD hN hS hA (q0 := 0) rfl rfl rfl rfl hl rfl (Nat.le_of_ble_eq_true rfl) dX8_sumOf_42 ⟨Nat.zero_le _, Nat.zero_le _⟩ (fun H locs hP hD hS => ?_)
            refine lv_i2l (v := r_21.toInt64) hx hb dX8_sumOf_45 rfl ?_
            refine lv_goto (tgt := 56) hx hb dX8_sumOf_46 (by decide) ?_
            refine lv_ladd hx hb dX8_sumOf_56 ?_
            obtain ⟨x2_23, ex2_23, hf⟩ := lt_el hf
            refine x_topl ex2_23 ?_
            refine lv_lstore_n (lv' := [(2, .long x2_23), (0, .ref a0), (1, .int p1), (4, .int z4_13)]) hx hb dX8_sumOf_57 rfl hl (by decide) rfl (fun ls hl => ?_)
            refine lv_iinc (v := (z4_13 + 1)) (lv' := [(4, .int (z4_13 + 1)), (2, .long x2_23), (0, .ref a0), (1, .int p1)]) hx hb dX8_sumOf_58 hl (k := 3) rfl rfl (by decide) rfl (fun ls hl => ?_)
            refine lv_goto (tgt := 22) hx hb dX8_sumOf_61 (by decide) ?_
            exact ih x2_23 (z4_13 + 1) _ _ _ _ hf hP hD hS (lv_sub hl [2, 3, 1, 0] rfl) hr_22 kx_22
    obtain ⟨x2_11, h1_22, hf⟩ := bd1_el hf
    refine hL_22 2147483648 0 0 _ _ _ _ h1_22 hP hD hS (lv_sub hl [2, 3, 1, 0] rfl) trivial (fun x2_119 ho H locs ls hP hD hS hl => ?_)
    cases ho
    refine lv_lload_n hx hb dX8_sumOf_64 rfl (lv_at hl 0 rfl) ?_
    have hf := Option.some.inj hf
    cases hf
    exact x_lret hx hb hr hlocks hK hP hD hS dX8_sumOf_65
  · have hf := x_f c_1 hf
    refine lv_aload_n hx hb dX8_sumOf_5 rfl (lv_at hl 0 rfl) ?_
    refine x_get hx hb (C := RX8) (T := TX8) (N := 16) (ci := 8) hts iX8 hown hK hP 0 rfl rfl 1 (by decide) wd1 rfl (.ref a2) rfl dX8_sumOf_6 ?_
    refine lv_bipush (v := 12) hx hb dX8_sumOf_9 (by decide) ?_
    refine lv_iload_n hx hb dX8_sumOf_11 rfl (lv_at hl 1 rfl) ?_
    refine lv_iadd hx hb dX8_sumOf_12 ?_
    refine lv_iconst (v := 2) hx hb dX8_sumOf_13 (by decide) ?_
    refine lv_isub hx hb dX8_sumOf_14 ?_
    obtain ⟨hi_24, hf⟩ := ckI_el hf
    refine va_lald hx hb hK hP 2 2 rfl rfl hi_24 dX8_sumOf_15 ?_
    have hf := Option.some.inj hf
    cases hf
    exact x_lret hx hb hr hlocks hK hP hD hS dX8_sumOf_16
theorem kdX8_sum : yX8_sum.cls = RX8 ∧ yX8_sum.cls ≠ "java/lang/invoke/MethodHandle" ∧ yX8_sum.cls ≠ "java/lang/invoke/VarHandle" ∧ (parseMethodDescriptor yX8_sum.desc).map (fun d => d.parameters.length) = some 1 := by decide +kernel
def rmX8_sum : Room := { frames := 4, cells := 0, slots := 0, locals := 91 }
set_option maxHeartbeats 4000000 in
set_option maxRecDepth 100000 in
theorem mX8_sum (l : Launch) (D : va_G) (cy : Nat → ClassId) (a0 a1 a2 a3 a4 a5 a6 : Nat) (st : Nat → Int32) (gr : Nat → Int64) (hi : Nat → Int32) (gh : Nat → Int64) (rc : Int32) (tx : Nat → Int32) (tl : Int32) (rk : Nat → Int32) (tb : Int32) (tk : Int64) (at_ : Int32) (ltr : Int32) (on_ : Int32) (tw : Int32) (th : Int32) (nu : Int32) (p1 : Int32) (r : Int64) (hf : fX8_sum st gr p1 = some r) : xMl l D cy yX8_sum aX8_sum rmX8_sum ([.ref a0, .int p1] : List Value) (wX8 cy a0 a1 a2 a3 a4 a5 a6 st gr hi gh rc tx tl rk tb tk at_ ltr on_ tw th nu) (wX8 cy a0 a1 a2 a3 a4 a5 a6 st gr hi gh rc tx tl rk tb tk at_ ltr on_ tw th nu) r := by
  intro hz
  refine x_start (Qc := xQl D cy _ r) (cc := cX8_sum) (maxL := 2) (ret := (some .long)) (by decide) rfl (Nat.le_of_ble_eq_true rfl) (lv := [(0, .ref a0), (1, .int p1)]) rfl ?_
  intro p e s m below meth c ls A hx hb hr hml hown hts hlocks hK hP hD hS hA hN hl
  have hown : s.vm.findClass RX8 = some m.cls := hown
  have hbg : ∀ w ∈ wsL_law, w ∈ aX8_sum := fun w h => List.mem_cons_of_mem _ h
  have wd0 : (Cond.constantLong RX8 205 (-2)).before ([.ref a0, .int p1] : List Value).toArray s = true := hts _ (List.mem_cons_of_mem _ wm_32_7)
  unfold fX8_sum at hf
  refine lv_iload_n hx hb dX8_sum_0 rfl (lv_at hl 1 rfl) ?_
  refine lv_iconst (v := 0) hx hb dX8_sum_1 (by decide) ?_
  refine lv_iconst (v := 5) hx hb dX8_sum_2 (by decide) ?_
  obtain ⟨r_1, h_2, hf⟩ := bd1_el hf
  refine x_callSi (As := [.int p1, .int 0, .int 5]) (rest := []) ⟨hx, hb, hml, hown, hts⟩ (mX8_within l D cy   p1 0 5 r_1 h_2) (va_cwS 3 hts (gcS_X8_within hbg wm_7_0) rfl rfl rfl kdX8_within ⟨Nat.le_of_ble_eq_true rfl, Nat.le_of_ble_eq_true rfl⟩) (w1 := []) (w2 := wX8 cy a0 a1 a2 a3 a4 a5 a6 st gr hi gh rc tx tl rk tb tk at_ ltr on_ tw th nu) (w' := wX8 cy a0 a1 a2 a3 a4 a5 a6 st gr hi gh rc tx tl rk tb tk at_ ltr on_ tw th nu) rfl rfl hP hK hD hN hS hA rfl hl rfl (Nat.le_of_ble_eq_true rfl) dX8_sum_3 ⟨Nat.zero_le _, Nat.zero_le _⟩ (fun H locs hP hD hS => ?_)
  refine lv_if_eq (tgt := 17) hx hb dX8_sum_6 (by decide) (fun c_3 => ?_) (fun c_3 => ?_)
  · have hf := x_t c_3 hf
    refine lv_ldc2 hx hb hown wd0 dX8_sum_17 ?_
    have hf := Option.some.inj hf
    cases hf
    exact x_lret hx hb hr hlocks hK hP hD hS dX8_sum_20
  · have hf := x_f c_3 hf
    refine lv_aload_n hx hb dX8_sum_9 rfl (lv_at hl 0 rfl) ?_
    refine lv_iload_n hx hb dX8_sum_10 rfl (lv_at hl 1 rfl) ?_
    obtain ⟨r_4, h_5, hf⟩ := bd1_el hf
    refine x_callVl (As := [.int p1]) (rest := []) ⟨hx, hb, hml, hown, hts⟩ (mX8_sumOf l D cy a0 a1 a2 a3 a4 a5 a6 st gr hi gh rc tx tl rk tb tk at_ ltr on_ tw th nu p1 r_4 h_5) (cwV 1 hts (gcV_X8_sumOf hbg wm_32_8) rfl rfl rfl kdX8_sumOf ⟨Nat.le_of_ble_eq_true rfl, Nat.le_of_ble_eq_true rfl⟩) (w1 := []) (w2 := []) (w' := wX8 cy a0 a1 a2 a3 a4 a5 a6 st gr hi gh rc tx tl rk tb tk at_ ltr on_ tw th nu) (List.append_nil _) (List.append_nil _) hP hK hD hN hS hA (q0 := 0) rfl rfl rfl rfl hl rfl (Nat.le_of_ble_eq_true rfl) dX8_sum_11 ⟨Nat.zero_le _, Nat.zero_le _⟩ (fun H locs hP hD hS => ?_)
    refine lv_goto (tgt := 20) hx hb dX8_sum_14 (by decide) ?_
    have hf := Option.some.inj hf
    cases hf
    exact x_lret hx hb hr hlocks hK hP hD hS dX8_sum_20
theorem kdX8_payableOn : yX8_payableOn.cls = RX8 ∧ yX8_payableOn.cls ≠ "java/lang/invoke/MethodHandle" ∧ yX8_payableOn.cls ≠ "java/lang/invoke/VarHandle" ∧ (parseMethodDescriptor yX8_payableOn.desc).map (fun d => d.parameters.length) = some 2 := by decide +kernel
def rmX8_payableOn : Room := { frames := 2, cells := 0, slots := 0, locals := 46 }
set_option maxHeartbeats 4000000 in
set_option maxRecDepth 100000 in
theorem mX8_payableOn (l : Launch) (D : va_G) (cy : Nat → ClassId) (a0 a1 a2 a3 a4 a5 a6 : Nat) (st : Nat → Int32) (gr : Nat → Int64) (hi : Nat → Int32) (gh : Nat → Int64) (rc : Int32) (tx : Nat → Int32) (tl : Int32) (rk : Nat → Int32) (tb : Int32) (tk : Int64) (at_ : Int32) (ltr : Int32) (on_ : Int32) (tw : Int32) (th : Int32) (nu : Int32) (p1 : Int32) (p2 : Int32) (r : Int32) (tb' : Int32) (tk' : Int64) (hf : fX8_payableOn st gr tb tk p1 p2 = some (r, tb', tk')) : xMi l D cy yX8_payableOn aX8_payableOn rmX8_payableOn ([.ref a0, .int p1, .int p2] : List Value) (wX8 cy a0 a1 a2 a3 a4 a5 a6 st gr hi gh rc tx tl rk tb tk at_ ltr on_ tw th nu) (wX8 cy a0 a1 a2 a3 a4 a5 a6 st gr hi gh rc tx tl rk tb' tk' at_ ltr on_ tw th nu) r := by
  intro hz
  refine x_start (Qc := xQi D cy _ r) (cc := cX8_payableOn) (maxL := 6) (ret := (some .int)) (by decide) rfl (Nat.le_of_ble_eq_true rfl) (lv := [(0, .ref a0), (1, .int p1), (2, .int p2)]) rfl ?_
  intro p e s m below meth c ls A hx hb hr hml hown hts hlocks hK hP hD hS hA hN hl
  have hown : s.vm.findClass RX8 = some m.cls := hown
  have hbg : ∀ w ∈ wsL_law, w ∈ aX8_payableOn := fun w h => List.mem_cons_of_mem _ h
  have wd0 : (Cond.fieldLink RX8 7 "ClientMoneyBookModel" "state" "[I").before ([.ref a0, .int p1, .int p2] : List Value).toArray s = true := hts _ (List.mem_cons_of_mem _ wm_4_9)
  have wd1 : (Cond.fieldLink RX8 144 "ClientMoneyBookModel" "thoughtBalance" "I").before ([.ref a0, .int p1, .int p2] : List Value).toArray s = true := hts _ (List.mem_cons_of_mem _ wm_23_17)
  have iX8 : ∀ w ∈ u_ws RX8 TX8 16, w ∈ aX8_payableOn := fun w h => List.mem_cons_of_mem _ (inlX8 w h)
  unfold fX8_payableOn at hf
  refine lv_aload_n hx hb dX8_payableOn_0 rfl (lv_at hl 0 rfl) ?_
  refine lv_iload_n hx hb dX8_payableOn_1 rfl (lv_at hl 1 rfl) ?_
  obtain ⟨r_1, h_2, hf⟩ := bd1_el hf
  refine x_callVi (As := [.int p1]) (rest := []) ⟨hx, hb, hml, hown, hts⟩ (mX8_find l D cy a0 a1 a2 a3 a4 a5 a6 st gr hi gh rc tx tl rk tb tk at_ ltr on_ tw th nu p1 r_1 h_2) (cwV 1 hts (gcV_X8_find hbg wm_9_5) rfl rfl rfl kdX8_find ⟨Nat.le_of_ble_eq_true rfl, Nat.le_of_ble_eq_true rfl⟩) (w1 := []) (w2 := []) (w' := wX8 cy a0 a1 a2 a3 a4 a5 a6 st gr hi gh rc tx tl rk tb tk at_ ltr on_ tw th nu) (List.append_nil _) (List.append_nil _) hP hK hD hN hS hA (q0 := 0) rfl rfl rfl rfl hl rfl (Nat.le_of_ble_eq_true rfl) dX8_payableOn_2 ⟨Nat.zero_le _, Nat.zero_le _⟩ (fun H locs hP hD hS => ?_)
  refine lv_istore_n (lv' := [(3, .int r_1), (0, .ref a0), (1, .int p1), (2, .int p2)]) hx hb dX8_payableOn_5 rfl hl (by decide) rfl (fun ls hl => ?_)
  refine lv_iload_n hx hb dX8_payableOn_6 rfl (lv_at hl 0 rfl) ?_
  refine lv_bipush (v := (-6)) hx hb dX8_payableOn_7 (by decide) ?_
  refine lv_icmp_ne (tgt := 14) hx hb dX8_payableOn_9 (by decide) (fun c_3 => ?_) (fun c_3 => ?_)
  · have hf := x_f c_3 hf
    refine lv_iload_n hx hb dX8_payableOn_14 rfl (lv_at hl 3 rfl) ?_
    obtain ⟨r_4, h_5, hf⟩ := bd1_el hf
    refine x_callSi (As := [.int p2]) (rest := []) ⟨hx, hb, hml, hown, hts⟩ (mX8_isAmount l D cy   p2 r_4 h_5) (va_cwS 1 hts (gcS_X8_isAmount hbg wm_13_5) rfl rfl rfl kdX8_isAmount ⟨Nat.le_of_ble_eq_true rfl, Nat.le_of_ble_eq_true rfl⟩) (w1 := []) (w2 := wX8 cy a0 a1 a2 a3 a4 a5 a6 st gr hi gh rc tx tl rk tb tk at_ ltr on_ tw th nu) (w' := wX8 cy a0 a1 a2 a3 a4 a5 a6 st gr hi gh rc tx tl rk tb tk at_ ltr on_ tw th nu) rfl rfl hP hK hD hN hS hA rfl hl rfl (Nat.le_of_ble_eq_true rfl) dX8_payableOn_15 ⟨Nat.zero_le _, Nat.zero_le _⟩ (fun H locs hP hD hS => ?_)
    refine lv_if_ne (tgt := 24) hx hb dX8_payableOn_18 (by decide) (fun c_6 => ?_) (fun c_6 => ?_)
    · have hf := x_f c_6 hf
      refine lv_aload_n hx hb dX8_payableOn_24 rfl (lv_at hl 1 rfl) ?_
      refine lv_iload_n hx hb dX8_payableOn_25 rfl (lv_at hl 0 rfl) ?_
      obtain ⟨tb_7, tk_8, h_9, hf⟩ := bd2_el hf
      refine x_callVv (As := [.int r_1]) (rest := []) ⟨hx, hb, hml, hown, hts⟩ (mX8_thinks l D cy a0 a1 a2 a3 a4 a5 a6 st gr hi gh rc tx tl rk tb tk at_ ltr on_ tw th nu r_1 tb_7 tk_8 h_9) (cwV 1 hts (gcV_X8_thinks hbg wm_23_19) rfl rfl rfl kdX8_thinks ⟨Nat.le_of_ble_eq_true rfl, Nat.le_of_ble_eq_true rfl⟩) (w1 := []) (w2 := []) (w' := wX8 cy a0 a1 a2 a3 a4 a5 a6 st gr hi gh rc tx tl rk tb_7 tk_8 at_ ltr on_ tw th nu) (List.append_nil _) (List.append_nil _) hP hK hD hN hS hA (q0 := 0) rfl rfl rfl rfl hl rfl (Nat.le_of_ble_eq_true rfl) dX8_payableOn_26 ⟨Nat.zero_le _, Nat.zero_le _⟩ (fun H locs hP hD hS => ?_)
      refine lv_iconst (v := 0) hx hb dX8_payableOn_29 (by decide) ?_
      refine lv_istore (lv' := [(4, .int 0), (3, .int r_1), (0, .ref a0), (1, .int p1), (2, .int p2)]) hx hb dX8_payableOn_30 hl (by decide) rfl (fun ls hl => ?_)
      have hL_32 : ∀ (n : Nat) (tb_26 : Int32) (tk_27 : Int64) (z4_28 : Int32) (o : (Int32 × Int32 × Int64) ⊕ (Int32 × Int64)) (H : Heap) (locs : List Loc) (ls : Array Slot), fX8_payableOn_L32 st p1 p2 n tb_26 tk_27 z4_28 = some o → va_P D vwCl (wX8 cy a0 a1 a2 a3 a4 a5 a6 st gr hi gh rc tx tl rk tb_26 tk_27 at_ ltr on_ tw th nu) H → va_D A (wX8 cy a0 a1 a2 a3 a4 a5 a6 st gr hi gh rc tx tl rk tb_26 tk_27 at_ ltr on_ tw th nu) → va_S A s.heap H locs → lv_has ls 6 [(0, .ref a0), (1, .int p1), (2, .int p2), (4, .int z4_28)] → (∀ r', o = .inl r' → r' = (r, tb', tk')) → ((∀ (tb_29 : Int32) (tk_30 : Int64) , o = (.inr (tb_29, tk_30)) → ∀ (H : Heap) (locs : List Loc) (ls : Array Slot), va_P D vwCl (wX8 cy a0 a1 a2 a3 a4 a5 a6 st gr hi gh rc tx tl rk tb_29 tk_30 at_ ltr on_ tw th nu) H → va_D A (wX8 cy a0 a1 a2 a3 a4 a5 a6 st gr hi gh rc tx tl rk tb_29 tk_30 at_ ltr on_ tw th nu) → va_S A s.heap H locs → lv_has ls 6 [] → W p l e rmX8_payableOn s m ([.ref a0, .int p1, .int p2] : List Value).toArray below meth c H locs 0 0 (MQ below (xQi D cy (wX8 cy a0 a1 a2 a3 a4 a5 a6 st gr hi gh rc tx tl rk tb' tk' at_ ltr on_ tw th nu) r A) ([.ref a0, .int p1, .int p2] : List Value).toArray s 0 0 A) (F0 m 88 ls []))) → W p l e rmX8_payableOn s m ([.ref a0, .int p1, .int p2] : List Value).toArray below meth c H locs 0 0 (MQ below (xQi D cy (wX8 cy a0 a1 a2 a3 a4 a5 a6 st gr hi gh rc tx tl rk tb' tk' at_ ltr on_ tw th nu) r A) ([.ref a0, .int p1, .int p2] : List Value).toArray s 0 0 A) (F0 m 32 ls []) := by
        intro n
        induction n with
        | zero =>
          intro tb_26 tk_27 z4_28 o_32 H locs ls hf
          rw [fX8_payableOn_L32] at hf
          cases hf
        | succ n ih =>
          intro tb_26 tk_27 z4_28 o_32 H locs ls hf hP hD hS hl hr_32 kx_32
          rw [fX8_payableOn_L32] at hf
          refine lv_iload hx hb dX8_payableOn_32 (lv_at hl 3 rfl) ?_
          refine lv_sipush (v := 400) hx hb dX8_payableOn_34 (by decide) ?_
          refine lv_icmp_gt (tgt := 88) hx hb dX8_payableOn_37 (by decide) (fun c_31 => ?_) (fun c_31 => ?_)
          · have hf := x_t c_31 hf
            exact kx_32 tb_26 tk_27 (Option.some.inj hf).symm _ _ _ hP hD hS (lv_sub hl [] rfl)
          · have hf := x_f c_31 hf
            refine lv_aload_n hx hb dX8_payableOn_40 rfl (lv_at hl 0 rfl) ?_
            refine x_get hx hb (C := RX8) (T := TX8) (N := 16) (ci := 8) hts iX8 hown hK hP 0 rfl rfl 0 (by decide) wd0 rfl (.ref a1) rfl dX8_payableOn_41 ?_
            refine lv_iconst (v := 0) hx hb dX8_payableOn_44 (by decide) ?_
            obtain ⟨hi_32, hf⟩ := ckI_el hf
            refine va_iald hx hb hK hP 1 1 rfl rfl hi_32 dX8_payableOn_45 ?_
            refine lv_iload hx hb dX8_payableOn_46 (lv_at hl 3 rfl) ?_
            refine lv_iadd hx hb dX8_payableOn_48 ?_
            obtain ⟨x5_33, ex5_33, hf⟩ := lt_el hf
            refine x_topi ex5_33 ?_
            refine lv_istore (lv' := [(5, .int x5_33), (0, .ref a0), (1, .int p1), (2, .int p2), (4, .int z4_28)]) hx hb dX8_payableOn_49 hl (by decide) rfl (fun ls hl => ?_)
            refine lv_iload hx hb dX8_payableOn_51 (lv_at hl 4 rfl) ?_
            refine lv_if_le (tgt := 63) hx hb dX8_payableOn_53 (by decide) (fun c_34 => ?_) (fun c_34 => ?_)
            · have hf := x_t c_34 hf
              refine lv_aload_n hx hb dX8_payableOn_63 rfl (lv_at hl 1 rfl) ?_
              refine x_get hx hb (C := RX8) (T := TX8) (N := 16) (ci := 8) hts iX8 hown hK hP 0 rfl rfl 8 (by decide) wd1 rfl (.int tb_26) rfl dX8_payableOn_64 ?_
              refine lv_aload_n hx hb dX8_payableOn_67 rfl (lv_at hl 1 rfl) ?_
              refine lv_iload_n hx hb dX8_payableOn_68 rfl (lv_at hl 2 rfl) ?_
              refine lv_iload hx hb dX8_payableOn_69 (lv_at hl 0 rfl) ?_
              obtain ⟨r_35, h_36, hf⟩ := bd1_el hf
              refine x_callVi (As := [.int p1, .int x5_33]) (rest := [.int tb_26]) ⟨hx, hb, hml, hown, hts⟩ (mX8_heldOn l D cy a0 a1 a2 a3 a4 a5 a6 st gr hi gh rc tx tl rk tb_26 tk_27 at_ ltr on_ tw th nu p1 x5_33 r_35 h_36) (cwV 2 hts (gcV_X8_heldOn hbg wm_15_16) rfl rfl rfl kdX8_heldOn ⟨Nat.le_of_ble_eq_true rfl, Nat.le_of_ble_eq_true rfl⟩) (w1 := []) (w2 := []) (w' := wX8 cy a0 a1 a2 a3 a4 a5 a6 st gr hi gh rc tx tl rk tb_26 tk_27 at_ ltr on_ tw th nu) (List.append_nil _) (List.append_nil _) hP hK hD hN hS hA (q0 := 0) rfl rfl rfl rfl hl rfl (Nat.le_of_ble_eq_true rfl) dX8_payableOn_71 ⟨Nat.zero_le _, Nat.zero_le _⟩ (fun H locs hP hD hS => ?_)
              refine lv_isub hx hb dX8_payableOn_74 ?_
              refine lv_iload_n hx hb dX8_payableOn_75 rfl (lv_at hl 3 rfl) ?_
              refine lv_icmp_lt (tgt := 82) hx hb dX8_payableOn_76 (by decide) (fun c_37 => ?_) (fun c_37 => ?_)
              · have hf := x_t c_37 hf
                refine lv_iinc (v := (z4_28 + 1)) (lv' := [(4, .int (z4_28 + 1)), (5, .int x5_33), (0, .ref a0), (1, .int p1), (2, .int p2)]) hx hb dX8_payableOn_82 hl (k := 4) rfl rfl (by decide) rfl (fun ls hl => ?_)
                refine lv_goto (tgt := 32) hx hb dX8_payableOn_85 (by decide) ?_
                exact ih tb_26 tk_27 (z4_28 + 1) _ _ _ _ hf hP hD hS (lv_sub hl [2, 3, 4, 0] rfl) hr_32 kx_32
              · have hf := x_f c_37 hf
                refine lv_iload hx hb dX8_payableOn_79 (lv_at hl 0 rfl) ?_
                have hf := Option.some.inj hf
                have hf := (hr_32 _ hf.symm)
                cases hf
                exact x_iret hx hb hr hlocks hK hP hD hS dX8_payableOn_81
            · have hf := x_f c_34 hf
              refine lv_aload_n hx hb dX8_payableOn_56 rfl (lv_at hl 1 rfl) ?_
              refine lv_iload hx hb dX8_payableOn_57 (lv_at hl 0 rfl) ?_
              obtain ⟨r_38, tb_39, tk_40, h_41, hf⟩ := bd3_el hf
              refine x_callVi (As := [.int x5_33]) (rest := []) ⟨hx, hb, hml, hown, hts⟩ (mX8_dayEnds l D cy a0 a1 a2 a3 a4 a5 a6 st gr hi gh rc tx tl rk tb_26 tk_27 at_ ltr on_ tw th nu x5_33 r_38 tb_39 tk_40 h_41) (cwV 1 hts (gcV_X8_dayEnds hbg wm_23_23) rfl rfl rfl kdX8_dayEnds ⟨Nat.le_of_ble_eq_true rfl, Nat.le_of_ble_eq_true rfl⟩) (w1 := []) (w2 := []) (w' := wX8 cy a0 a1 a2 a3 a4 a5 a6 st gr hi gh rc tx tl rk tb_39 tk_40 at_ ltr on_ tw th nu) (List.append_nil _) (List.append_nil _) hP hK hD hN hS hA (q0 := 0) rfl rfl rfl rfl hl rfl (Nat.le_of_ble_eq_true rfl) dX8_payableOn_59 ⟨Nat.zero_le _, Nat.zero_le _⟩ (fun H locs hP hD hS => ?_)
              refine lv_pop hx hb dX8_payableOn_62 rfl ?_
              refine lv_aload_n hx hb dX8_payableOn_63 rfl (lv_at hl 1 rfl) ?_
              refine x_get hx hb (C := RX8) (T := TX8) (N := 16) (ci := 8) hts iX8 hown hK hP 0 rfl rfl 8 (by decide) wd1 rfl (.int tb_39) rfl dX8_payableOn_64 ?_
              refine lv_aload_n hx hb dX8_payableOn_67 rfl (lv_at hl 1 rfl) ?_
              refine lv_iload_n hx hb dX8_payableOn_68 rfl (lv_at hl 2 rfl) ?_
              refine lv_iload hx hb dX8_payableOn_69 (lv_at hl 0 rfl) ?_
              obtain ⟨r_42, h_43, hf⟩ := bd1_el hf
              refine x_callVi (As := [.int p1, .int x5_33]) (rest := [.int tb_39]) ⟨hx, hb, hml, hown, hts⟩ (mX8_heldOn l D cy a0 a1 a2 a3 a4 a5 a6 st gr hi gh rc tx tl rk tb_39 tk_40 at_ ltr on_ tw th nu p1 x5_33 r_42 h_43) (cwV 2 hts (gcV_X8_heldOn hbg wm_15_16) rfl rfl rfl kdX8_heldOn ⟨Nat.le_of_ble_eq_true rfl, Nat.le_of_ble_eq_true rfl⟩) (w1 := []) (w2 := []) (w' := wX8 cy a0 a1 a2 a3 a4 a5 a6 st gr hi gh rc tx tl rk tb_39 tk_40 at_ ltr on_ tw th nu) (List.append_nil _) (List.append_nil _) hP hK hD hN hS hA (q0 := 0) rfl rfl rfl rfl hl rfl (Nat.le_of_ble_eq_true rfl) dX8_payableOn_71 ⟨Nat.zero_le _, Nat.zero_le _⟩ (fun H locs hP hD hS => ?_)
              refine lv_isub hx hb dX8_payableOn_74 ?_
              refine lv_iload_n hx hb dX8_payableOn_75 rfl (lv_at hl 3 rfl) ?_
              refine lv_icmp_lt (tgt := 82) hx hb dX8_payableOn_76 (by decide) (fun c_44 => ?_) (fun c_44 => ?_)
              · have hf := x_t c_44 hf
                refine lv_iinc (v := (z4_28 + 1)) (lv' := [(4, .int (z4_28 + 1)), (5, .int x5_33), (0, .ref a0), (1, .int p1), (2, .int p2)]) hx hb dX8_payableOn_82 hl (k := 4) rfl rfl (by decide) rfl (fun ls hl => ?_)
                refine lv_goto (tgt := 32) hx hb dX8_payableOn_85 (by decide) ?_
                exact ih tb_39 tk_40 (z4_28 + 1) _ _ _ _ hf hP hD hS (lv_sub hl [2, 3, 4, 0] rfl) hr_32 kx_32
              · have hf := x_f c_44 hf
                refine lv_iload hx hb dX8_payableOn_79 (lv_at hl 0 rfl) ?_
                have hf := Option.some.inj hf
                have hf := (hr_32 _ hf.symm)
                cases hf
                exact x_iret hx hb hr hlocks hK hP hD hS dX8_payableOn_81
      obtain ⟨o_32, h1_32, hr_32, hf⟩ := bs2_el hf
      refine hL_32 2147483648 tb_7 tk_8 0 o_32 _ _ _ h1_32 hP hD hS (lv_sub hl [2, 3, 4, 0] rfl) hr_32 (fun tb_24 tk_25 ho H locs ls hP hD hS hl => ?_)
      have hf := hf tb_24 tk_25 ho
      refine lv_bipush (v := (-6)) hx hb dX8_payableOn_88 (by decide) ?_
      have hf := Option.some.inj hf
      cases hf
      exact x_iret hx hb hr hlocks hK hP hD hS dX8_payableOn_90
    · have hf := x_t c_6 hf
      refine lv_bipush (v := (-2)) hx hb dX8_payableOn_21 (by decide) ?_
      have hf := Option.some.inj hf
      cases hf
      exact x_iret hx hb hr hlocks hK hP hD hS dX8_payableOn_23
  · have hf := x_t c_3 hf
    refine lv_iconst (v := (-1)) hx hb dX8_payableOn_12 (by decide) ?_
    have hf := Option.some.inj hf
    cases hf
    exact x_iret hx hb hr hlocks hK hP hD hS dX8_payableOn_13
