theorem kdX8_interestIn : yX8_interestIn.cls = RX8 ∧ yX8_interestIn.cls ≠ "java/lang/invoke/MethodHandle" ∧ yX8_interestIn.cls ≠ "java/lang/invoke/VarHandle" ∧ (parseMethodDescriptor yX8_interestIn.desc).map (fun d => d.parameters.length) = some 2 := by decide +kernel
def rmX8_interestIn : Room := { frames := 2, cells := 0, slots := 0, locals := 45 }
set_option maxHeartbeats 4000000 in
set_option maxRecDepth 100000 in
theorem mX8_interestIn (l : Launch) (D : va_G) (cy : Nat → ClassId) (a0 a1 a2 a3 a4 a5 a6 : Nat) (st : Nat → Int32) (gr : Nat → Int64) (hi : Nat → Int32) (gh : Nat → Int64) (rc : Int32) (tx : Nat → Int32) (tl : Int32) (rk : Nat → Int32) (tb : Int32) (tk : Int64) (at_ : Int32) (ltr : Int32) (on_ : Int32) (tw : Int32) (th : Int32) (nu : Int32) (p1 : Int32) (p2 : Int32) (r : Int32) (tb' : Int32) (tk' : Int64) (hf : fX8_interestIn st gr tb tk p1 p2 = some (r, tb', tk')) : xMi l D cy yX8_interestIn aX8_interestIn rmX8_interestIn ([.ref a0, .int p1, .int p2] : List Value) (wX8 cy a0 a1 a2 a3 a4 a5 a6 st gr hi gh rc tx tl rk tb tk at_ ltr on_ tw th nu) (wX8 cy a0 a1 a2 a3 a4 a5 a6 st gr hi gh rc tx tl rk tb' tk' at_ ltr on_ tw th nu) r := by
  intro hz
  refine x_start (Qc := xQi D cy _ r) (cc := cX8_interestIn) (maxL := 6) (ret := (some .int)) (by decide) rfl (Nat.le_of_ble_eq_true rfl) (lv := [(0, .ref a0), (1, .int p1), (2, .int p2)]) rfl ?_
  intro p e s m below meth c ls A hx hb hr hml hown hts hlocks hK hP hD hS hA hN hl
  have hown : s.vm.findClass RX8 = some m.cls := hown
  have hbg : ∀ w ∈ wsL_law, w ∈ aX8_interestIn := fun w h => List.mem_cons_of_mem _ h
  have wd0 : (Cond.fieldLink RX8 7 "ClientMoneyBookModel" "state" "[I").before ([.ref a0, .int p1, .int p2] : List Value).toArray s = true := hts _ (List.mem_cons_of_mem _ wm_4_9)
  have iX8 : ∀ w ∈ u_ws RX8 TX8 16, w ∈ aX8_interestIn := fun w h => List.mem_cons_of_mem _ (inlX8 w h)
  unfold fX8_interestIn at hf
  refine lv_aload_n hx hb dX8_interestIn_0 rfl (lv_at hl 0 rfl) ?_
  refine lv_iload_n hx hb dX8_interestIn_1 rfl (lv_at hl 1 rfl) ?_
  obtain ⟨r_1, h_2, hf⟩ := bd1_el hf
  refine x_callVi (As := [.int p1]) (rest := []) ⟨hx, hb, hml, hown, hts⟩ (mX8_find l D cy a0 a1 a2 a3 a4 a5 a6 st gr hi gh rc tx tl rk tb tk at_ ltr on_ tw th nu p1 r_1 h_2) (cwV 1 hts (gcV_X8_find hbg wm_9_5) rfl rfl rfl kdX8_find ⟨Nat.le_of_ble_eq_true rfl, Nat.le_of_ble_eq_true rfl⟩) (w1 := []) (w2 := []) (w' := wX8 cy a0 a1 a2 a3 a4 a5 a6 st gr hi gh rc tx tl rk tb tk at_ ltr on_ tw th nu) (List.append_nil _) (List.append_nil _) hP hK hD hN hS hA (q0 := 0) rfl rfl rfl rfl hl rfl (Nat.le_of_ble_eq_true rfl) dX8_interestIn_2 ⟨Nat.zero_le _, Nat.zero_le _⟩ (fun H locs hP hD hS => ?_)
  refine lv_istore_n (lv' := [(3, .int r_1), (0, .ref a0), (1, .int p1), (2, .int p2)]) hx hb dX8_interestIn_5 rfl hl (by decide) rfl (fun ls hl => ?_)
  refine lv_iload_n hx hb dX8_interestIn_6 rfl (lv_at hl 0 rfl) ?_
  refine lv_bipush (v := (-6)) hx hb dX8_interestIn_7 (by decide) ?_
  refine lv_icmp_ne (tgt := 14) hx hb dX8_interestIn_9 (by decide) (fun c_3 => ?_) (fun c_3 => ?_)
  · have hf := x_f c_3 hf
    refine lv_iload_n hx hb dX8_interestIn_14 rfl (lv_at hl 3 rfl) ?_
    refine lv_iconst (v := 1) hx hb dX8_interestIn_15 (by decide) ?_
    refine lv_sipush (v := 400) hx hb dX8_interestIn_16 (by decide) ?_
    obtain ⟨r_4, h_5, hf⟩ := bd1_el hf
    refine x_callSi (As := [.int p2, .int 1, .int 400]) (rest := []) ⟨hx, hb, hml, hown, hts⟩ (mX8_within l D cy   p2 1 400 r_4 h_5) (va_cwS 3 hts (gcS_X8_within hbg wm_7_0) rfl rfl rfl kdX8_within ⟨Nat.le_of_ble_eq_true rfl, Nat.le_of_ble_eq_true rfl⟩) (w1 := []) (w2 := wX8 cy a0 a1 a2 a3 a4 a5 a6 st gr hi gh rc tx tl rk tb tk at_ ltr on_ tw th nu) (w' := wX8 cy a0 a1 a2 a3 a4 a5 a6 st gr hi gh rc tx tl rk tb tk at_ ltr on_ tw th nu) rfl rfl hP hK hD hN hS hA rfl hl rfl (Nat.le_of_ble_eq_true rfl) dX8_interestIn_19 ⟨Nat.zero_le _, Nat.zero_le _⟩ (fun H locs hP hD hS => ?_)
    refine lv_if_ne (tgt := 28) hx hb dX8_interestIn_22 (by decide) (fun c_6 => ?_) (fun c_6 => ?_)
    · have hf := x_f c_6 hf
      refine lv_aload_n hx hb dX8_interestIn_28 rfl (lv_at hl 1 rfl) ?_
      refine lv_iload_n hx hb dX8_interestIn_29 rfl (lv_at hl 0 rfl) ?_
      obtain ⟨tb_7, tk_8, h_9, hf⟩ := bd2_el hf
      refine x_callVv (As := [.int r_1]) (rest := []) ⟨hx, hb, hml, hown, hts⟩ (mX8_thinks l D cy a0 a1 a2 a3 a4 a5 a6 st gr hi gh rc tx tl rk tb tk at_ ltr on_ tw th nu r_1 tb_7 tk_8 h_9) (cwV 1 hts (gcV_X8_thinks hbg wm_23_19) rfl rfl rfl kdX8_thinks ⟨Nat.le_of_ble_eq_true rfl, Nat.le_of_ble_eq_true rfl⟩) (w1 := []) (w2 := []) (w' := wX8 cy a0 a1 a2 a3 a4 a5 a6 st gr hi gh rc tx tl rk tb_7 tk_8 at_ ltr on_ tw th nu) (List.append_nil _) (List.append_nil _) hP hK hD hN hS hA (q0 := 0) rfl rfl rfl rfl hl rfl (Nat.le_of_ble_eq_true rfl) dX8_interestIn_30 ⟨Nat.zero_le _, Nat.zero_le _⟩ (fun H locs hP hD hS => ?_)
      refine lv_iconst (v := 0) hx hb dX8_interestIn_33 (by decide) ?_
      refine lv_istore (lv' := [(4, .int 0), (3, .int r_1), (0, .ref a0), (1, .int p1), (2, .int p2)]) hx hb dX8_interestIn_34 hl (by decide) rfl (fun ls hl => ?_)
      refine lv_iconst (v := 1) hx hb dX8_interestIn_36 (by decide) ?_
      refine lv_istore (lv' := [(5, .int 1), (4, .int 0), (3, .int r_1), (0, .ref a0), (1, .int p1), (2, .int p2)]) hx hb dX8_interestIn_37 hl (by decide) rfl (fun ls hl => ?_)
      have hL_39 : ∀ (n : Nat) (tb_20 : Int32) (tk_21 : Int64) (z4_22 : Int32) (z5_23 : Int32) (o : Int32 × Int64 × Int32) (H : Heap) (locs : List Loc) (ls : Array Slot), fX8_interestIn_L39 st p2 n tb_20 tk_21 z4_22 z5_23 = some o → va_P D vwCl (wX8 cy a0 a1 a2 a3 a4 a5 a6 st gr hi gh rc tx tl rk tb_20 tk_21 at_ ltr on_ tw th nu) H → va_D A (wX8 cy a0 a1 a2 a3 a4 a5 a6 st gr hi gh rc tx tl rk tb_20 tk_21 at_ ltr on_ tw th nu) → va_S A s.heap H locs → lv_has ls 6 [(0, .ref a0), (2, .int p2), (4, .int z4_22), (5, .int z5_23)] → True → ((∀ (tb_24 : Int32) (tk_25 : Int64) (x4_26 : Int32) , o = (tb_24, tk_25, x4_26) → ∀ (H : Heap) (locs : List Loc) (ls : Array Slot), va_P D vwCl (wX8 cy a0 a1 a2 a3 a4 a5 a6 st gr hi gh rc tx tl rk tb_24 tk_25 at_ ltr on_ tw th nu) H → va_D A (wX8 cy a0 a1 a2 a3 a4 a5 a6 st gr hi gh rc tx tl rk tb_24 tk_25 at_ ltr on_ tw th nu) → va_S A s.heap H locs → lv_has ls 6 [(4, .int x4_26)] → W p l e rmX8_interestIn s m ([.ref a0, .int p1, .int p2] : List Value).toArray below meth c H locs 0 0 (MQ below (xQi D cy (wX8 cy a0 a1 a2 a3 a4 a5 a6 st gr hi gh rc tx tl rk tb' tk' at_ ltr on_ tw th nu) r A) ([.ref a0, .int p1, .int p2] : List Value).toArray s 0 0 A) (F0 m 69 ls []))) → W p l e rmX8_interestIn s m ([.ref a0, .int p1, .int p2] : List Value).toArray below meth c H locs 0 0 (MQ below (xQi D cy (wX8 cy a0 a1 a2 a3 a4 a5 a6 st gr hi gh rc tx tl rk tb' tk' at_ ltr on_ tw th nu) r A) ([.ref a0, .int p1, .int p2] : List Value).toArray s 0 0 A) (F0 m 39 ls []) := by
        intro n
        induction n with
        | zero =>
          intro tb_20 tk_21 z4_22 z5_23 o_39 H locs ls hf
          rw [fX8_interestIn_L39] at hf
          cases hf
        | succ n ih =>
          intro tb_20 tk_21 z4_22 z5_23 o_39 H locs ls hf hP hD hS hl hr_39 kx_39
          rw [fX8_interestIn_L39] at hf
          refine lv_iload hx hb dX8_interestIn_39 (lv_at hl 3 rfl) ?_
          refine lv_iload_n hx hb dX8_interestIn_41 rfl (lv_at hl 1 rfl) ?_
          refine lv_icmp_gt (tgt := 69) hx hb dX8_interestIn_42 (by decide) (fun c_27 => ?_) (fun c_27 => ?_)
          · have hf := x_t c_27 hf
            exact kx_39 tb_20 tk_21 z4_22 (Option.some.inj hf).symm _ _ _ hP hD hS (lv_sub hl [2] rfl)
          · have hf := x_f c_27 hf
            refine lv_iload hx hb dX8_interestIn_45 (lv_at hl 2 rfl) ?_
            refine lv_aload_n hx hb dX8_interestIn_47 rfl (lv_at hl 0 rfl) ?_
            refine lv_aload_n hx hb dX8_interestIn_48 rfl (lv_at hl 0 rfl) ?_
            refine x_get hx hb (C := RX8) (T := TX8) (N := 16) (ci := 8) hts iX8 hown hK hP 0 rfl rfl 0 (by decide) wd0 rfl (.ref a1) rfl dX8_interestIn_49 ?_
            refine lv_iconst (v := 0) hx hb dX8_interestIn_52 (by decide) ?_
            obtain ⟨hi_28, hf⟩ := ckI_el hf
            refine va_iald hx hb hK hP 1 1 rfl rfl hi_28 dX8_interestIn_53 ?_
            refine lv_iload hx hb dX8_interestIn_54 (lv_at hl 3 rfl) ?_
            refine lv_iadd hx hb dX8_interestIn_56 ?_
            obtain ⟨r_29, tb_30, tk_31, h_32, hf⟩ := bd3_el hf
            refine x_callVi (As := [.int ((st (0 : Int32).toNatClampNeg) + z5_23)]) (rest := [.int z4_22]) ⟨hx, hb, hml, hown, hts⟩ (mX8_dayEnds l D cy a0 a1 a2 a3 a4 a5 a6 st gr hi gh rc tx tl rk tb_20 tk_21 at_ ltr on_ tw th nu ((st (0 : Int32).toNatClampNeg) + z5_23) r_29 tb_30 tk_31 h_32) (cwV 1 hts (gcV_X8_dayEnds hbg wm_23_23) rfl rfl rfl kdX8_dayEnds ⟨Nat.le_of_ble_eq_true rfl, Nat.le_of_ble_eq_true rfl⟩) (w1 := []) (w2 := []) (w' := wX8 cy a0 a1 a2 a3 a4 a5 a6 st gr hi gh rc tx tl rk tb_30 tk_31 at_ ltr on_ tw th nu) (List.append_nil _) (List.append_nil _) hP hK hD hN hS hA (q0 := 0) rfl rfl rfl rfl hl rfl (Nat.le_of_ble_eq_true rfl) dX8_interestIn_57 ⟨Nat.zero_le _, Nat.zero_le _⟩ (fun H locs hP hD hS => ?_)
            refine lv_iadd hx hb dX8_interestIn_60 ?_
            obtain ⟨x4_33, ex4_33, hf⟩ := lt_el hf
            refine x_topi ex4_33 ?_
            refine lv_istore (lv' := [(4, .int x4_33), (0, .ref a0), (2, .int p2), (5, .int z5_23)]) hx hb dX8_interestIn_61 hl (by decide) rfl (fun ls hl => ?_)
            refine lv_iinc (v := (z5_23 + 1)) (lv' := [(5, .int (z5_23 + 1)), (4, .int x4_33), (0, .ref a0), (2, .int p2)]) hx hb dX8_interestIn_63 hl (k := 3) rfl rfl (by decide) rfl (fun ls hl => ?_)
            refine lv_goto (tgt := 39) hx hb dX8_interestIn_66 (by decide) ?_
            exact ih tb_30 tk_31 x4_33 (z5_23 + 1) _ _ _ _ hf hP hD hS (lv_sub hl [2, 3, 1, 0] rfl) hr_39 kx_39
      obtain ⟨tb_17, tk_18, x4_19, h1_39, hf⟩ := bd3_el hf
      refine hL_39 2147483648 tb_7 tk_8 0 1 _ _ _ _ h1_39 hP hD hS (lv_sub hl [3, 5, 1, 0] rfl) trivial (fun tb_179 tk_189 x4_199 ho H locs ls hP hD hS hl => ?_)
      cases ho
      refine lv_iload hx hb dX8_interestIn_69 (lv_at hl 0 rfl) ?_
      have hf := Option.some.inj hf
      cases hf
      exact x_iret hx hb hr hlocks hK hP hD hS dX8_interestIn_71
    · have hf := x_t c_6 hf
      refine lv_bipush (v := (-2)) hx hb dX8_interestIn_25 (by decide) ?_
      have hf := Option.some.inj hf
      cases hf
      exact x_iret hx hb hr hlocks hK hP hD hS dX8_interestIn_27
  · have hf := x_t c_3 hf
    refine lv_iconst (v := (-1)) hx hb dX8_interestIn_12 (by decide) ?_
    have hf := Option.some.inj hf
    cases hf
    exact x_iret hx hb hr hlocks hK hP hD hS dX8_interestIn_13
theorem kdX8_type : yX8_type.cls = RX8 ∧ yX8_type.cls ≠ "java/lang/invoke/MethodHandle" ∧ yX8_type.cls ≠ "java/lang/invoke/VarHandle" ∧ (parseMethodDescriptor yX8_type.desc).map (fun d => d.parameters.length) = some 1 := by decide +kernel
def rmX8_type : Room := { frames := 1, cells := 0, slots := 0, locals := 22 }
set_option maxHeartbeats 4000000 in
set_option maxRecDepth 100000 in
theorem mX8_type (l : Launch) (D : va_G) (cy : Nat → ClassId) (a0 a1 a2 a3 a4 a5 a6 : Nat) (st : Nat → Int32) (gr : Nat → Int64) (hi : Nat → Int32) (gh : Nat → Int64) (rc : Int32) (tx : Nat → Int32) (tl : Int32) (rk : Nat → Int32) (tb : Int32) (tk : Int64) (at_ : Int32) (ltr : Int32) (on_ : Int32) (tw : Int32) (th : Int32) (nu : Int32) (p1 : Int32) (r : Int32) (tx' : Nat → Int32) (tl' : Int32) (hf : fX8_type tx tl p1 = some (r, tx', tl')) : xMi l D cy yX8_type aX8_type rmX8_type ([.ref a0, .int p1] : List Value) (wX8 cy a0 a1 a2 a3 a4 a5 a6 st gr hi gh rc tx tl rk tb tk at_ ltr on_ tw th nu) (wX8 cy a0 a1 a2 a3 a4 a5 a6 st gr hi gh rc tx' tl' rk tb tk at_ ltr on_ tw th nu) r := by
  intro hz
  refine x_start (Qc := xQi D cy _ r) (cc := cX8_type) (maxL := 2) (ret := (some .int)) (by decide) rfl (Nat.le_of_ble_eq_true rfl) (lv := [(0, .ref a0), (1, .int p1)]) rfl ?_
  intro p e s m below meth c ls A hx hb hr hml hown hts hlocks hK hP hD hS hA hN hl
  have hown : s.vm.findClass RX8 = some m.cls := hown
  have hbg : ∀ w ∈ wsL_law, w ∈ aX8_type := fun w h => List.mem_cons_of_mem _ h
  have wd0 : (Cond.fieldLink RX8 207 "ClientMoneyBookModel" "textLength" "I").before ([.ref a0, .int p1] : List Value).toArray s = true := hts _ (List.mem_cons_of_mem _ wm_34_6)
  have wd1 : (Cond.fieldLink RX8 23 "ClientMoneyBookModel" "text" "[I").before ([.ref a0, .int p1] : List Value).toArray s = true := hts _ (List.mem_cons_of_mem _ wm_4_13)
  have iX8 : ∀ w ∈ u_ws RX8 TX8 16, w ∈ aX8_type := fun w h => List.mem_cons_of_mem _ (inlX8 w h)
  unfold fX8_type at hf
  refine lv_iload_n hx hb dX8_type_0 rfl (lv_at hl 1 rfl) ?_
  refine lv_bipush (v := 33) hx hb dX8_type_1 (by decide) ?_
  refine lv_bipush (v := 126) hx hb dX8_type_3 (by decide) ?_
  obtain ⟨r_1, h_2, hf⟩ := bd1_el hf
  refine x_callSi (As := [.int p1, .int 33, .int 126]) (rest := []) ⟨hx, hb, hml, hown, hts⟩ (mX8_within l D cy   p1 33 126 r_1 h_2) (va_cwS 3 hts (gcS_X8_within hbg wm_7_0) rfl rfl rfl kdX8_within ⟨Nat.le_of_ble_eq_true rfl, Nat.le_of_ble_eq_true rfl⟩) (w1 := []) (w2 := wX8 cy a0 a1 a2 a3 a4 a5 a6 st gr hi gh rc tx tl rk tb tk at_ ltr on_ tw th nu) (w' := wX8 cy a0 a1 a2 a3 a4 a5 a6 st gr hi gh rc tx tl rk tb tk at_ ltr on_ tw th nu) rfl rfl hP hK hD hN hS hA rfl hl rfl (Nat.le_of_ble_eq_true rfl) dX8_type_5 ⟨Nat.zero_le _, Nat.zero_le _⟩ (fun H locs hP hD hS => ?_)
  refine lv_if_ne (tgt := 14) hx hb dX8_type_8 (by decide) (fun c_3 => ?_) (fun c_3 => ?_)
  · have hf := x_f c_3 hf
    refine lv_aload_n hx hb dX8_type_14 rfl (lv_at hl 0 rfl) ?_
    refine x_get hx hb (C := RX8) (T := TX8) (N := 16) (ci := 8) hts iX8 hown hK hP 0 rfl rfl 6 (by decide) wd0 rfl (.int tl) rfl dX8_type_15 ?_
    refine lv_bipush (v := 80) hx hb dX8_type_18 (by decide) ?_
    refine lv_icmp_ne (tgt := 26) hx hb dX8_type_20 (by decide) (fun c_4 => ?_) (fun c_4 => ?_)
    · have hf := x_f c_4 hf
      refine lv_aload_n hx hb dX8_type_26 rfl (lv_at hl 0 rfl) ?_
      refine x_get hx hb (C := RX8) (T := TX8) (N := 16) (ci := 8) hts iX8 hown hK hP 0 rfl rfl 5 (by decide) wd1 rfl (.ref a5) rfl dX8_type_27 ?_
      refine lv_aload_n hx hb dX8_type_30 rfl (lv_at hl 0 rfl) ?_
      refine x_get hx hb (C := RX8) (T := TX8) (N := 16) (ci := 8) hts iX8 hown hK hP 0 rfl rfl 6 (by decide) wd0 rfl (.int tl) rfl dX8_type_31 ?_
      refine lv_iload_n hx hb dX8_type_34 rfl (lv_at hl 1 rfl) ?_
      obtain ⟨hi_5, hf⟩ := ckI_el hf
      obtain ⟨tx_6, etx_6, hf⟩ := lt_el hf
      refine x_iast hx hb hK hP hD hS 5 rfl hi_5 etx_6 (w' := wX8 cy a0 a1 a2 a3 a4 a5 a6 st gr hi gh rc tx_6 tl rk tb tk at_ ltr on_ tw th nu) rfl dX8_type_35 (fun H locs hP hD hS => ?_)
      refine lv_aload_n hx hb dX8_type_36 rfl (lv_at hl 0 rfl) ?_
      refine lv_dup hx hb dX8_type_37 rfl ?_
      refine x_get hx hb (C := RX8) (T := TX8) (N := 16) (ci := 8) hts iX8 hown hK hP 0 rfl rfl 6 (by decide) wd0 rfl (.int tl) rfl dX8_type_38 ?_
      refine lv_iconst (v := 1) hx hb dX8_type_41 (by decide) ?_
      refine lv_iadd hx hb dX8_type_42 ?_
      obtain ⟨tl_7, etl_7, hf⟩ := lt_el hf
      refine x_topi etl_7 ?_
      refine x_put hx hb (C := RX8) (T := TX8) (N := 16) (ci := 8) hts iX8 tyX8 tyX8_ok nmX8 hown hK hP hD hS 0 rfl rfl 6 (by decide) wd0 rfl rfl (ty := .int) rfl rfl rfl (Nat.le_of_ble_eq_true rfl) (w' := wX8 cy a0 a1 a2 a3 a4 a5 a6 st gr hi gh rc tx_6 tl_7 rk tb tk at_ ltr on_ tw th nu) rfl dX8_type_43 (fun H locs hP hD hS => ?_)
      refine lv_aload_n hx hb dX8_type_46 rfl (lv_at hl 0 rfl) ?_
      refine x_get hx hb (C := RX8) (T := TX8) (N := 16) (ci := 8) hts iX8 hown hK hP 0 rfl rfl 6 (by decide) wd0 rfl (.int tl_7) rfl dX8_type_47 ?_
      have hf := Option.some.inj hf
      cases hf
      exact x_iret hx hb hr hlocks hK hP hD hS dX8_type_50
    · have hf := x_t c_4 hf
      refine lv_bipush (v := (-4)) hx hb dX8_type_23 (by decide) ?_
      have hf := Option.some.inj hf
      cases hf
      exact x_iret hx hb hr hlocks hK hP hD hS dX8_type_25
  · have hf := x_t c_3 hf
    refine lv_bipush (v := (-2)) hx hb dX8_type_11 (by decide) ?_
    have hf := Option.some.inj hf
    cases hf
    exact x_iret hx hb hr hlocks hK hP hD hS dX8_type_13
theorem kdX8_clearText : yX8_clearText.cls = RX8 ∧ yX8_clearText.cls ≠ "java/lang/invoke/MethodHandle" ∧ yX8_clearText.cls ≠ "java/lang/invoke/VarHandle" ∧ (parseMethodDescriptor yX8_clearText.desc).map (fun d => d.parameters.length) = some 0 := by decide +kernel
def rmX8_clearText : Room := { frames := 0, cells := 0, slots := 0, locals := 0 }
set_option maxHeartbeats 4000000 in
set_option maxRecDepth 100000 in
theorem mX8_clearText (l : Launch) (D : va_G) (cy : Nat → ClassId) (a0 a1 a2 a3 a4 a5 a6 : Nat) (st : Nat → Int32) (gr : Nat → Int64) (hi : Nat → Int32) (gh : Nat → Int64) (rc : Int32) (tx : Nat → Int32) (tl : Int32) (rk : Nat → Int32) (tb : Int32) (tk : Int64) (at_ : Int32) (ltr : Int32) (on_ : Int32) (tw : Int32) (th : Int32) (nu : Int32)  (r : Int32) (tl' : Int32) (hf : fX8_clearText tl = some (r, tl')) : xMi l D cy yX8_clearText aX8_clearText rmX8_clearText ([.ref a0] : List Value) (wX8 cy a0 a1 a2 a3 a4 a5 a6 st gr hi gh rc tx tl rk tb tk at_ ltr on_ tw th nu) (wX8 cy a0 a1 a2 a3 a4 a5 a6 st gr hi gh rc tx tl' rk tb tk at_ ltr on_ tw th nu) r := by
  intro hz
  refine x_start (Qc := xQi D cy _ r) (cc := cX8_clearText) (maxL := 2) (ret := (some .int)) (by decide) rfl (Nat.le_of_ble_eq_true rfl) (lv := [(0, .ref a0)]) rfl ?_
  intro p e s m below meth c ls A hx hb hr hml hown hts hlocks hK hP hD hS hA hN hl
  have hown : s.vm.findClass RX8 = some m.cls := hown
  have hbg : ∀ w ∈ wsL_law, w ∈ aX8_clearText := fun w h => List.mem_cons_of_mem _ h
  have wd0 : (Cond.fieldLink RX8 207 "ClientMoneyBookModel" "textLength" "I").before ([.ref a0] : List Value).toArray s = true := hts _ (List.mem_cons_of_mem _ wm_34_6)
  have iX8 : ∀ w ∈ u_ws RX8 TX8 16, w ∈ aX8_clearText := fun w h => List.mem_cons_of_mem _ (inlX8 w h)
  unfold fX8_clearText at hf
  refine lv_aload_n hx hb dX8_clearText_0 rfl (lv_at hl 0 rfl) ?_
  refine x_get hx hb (C := RX8) (T := TX8) (N := 16) (ci := 8) hts iX8 hown hK hP 0 rfl rfl 6 (by decide) wd0 rfl (.int tl) rfl dX8_clearText_1 ?_
  refine lv_istore_n (lv' := [(1, .int tl), (0, .ref a0)]) hx hb dX8_clearText_4 rfl hl (by decide) rfl (fun ls hl => ?_)
  refine lv_aload_n hx hb dX8_clearText_5 rfl (lv_at hl 1 rfl) ?_
  refine lv_iconst (v := 0) hx hb dX8_clearText_6 (by decide) ?_
  refine x_put hx hb (C := RX8) (T := TX8) (N := 16) (ci := 8) hts iX8 tyX8 tyX8_ok nmX8 hown hK hP hD hS 0 rfl rfl 6 (by decide) wd0 rfl rfl (ty := .int) rfl rfl rfl (Nat.le_of_ble_eq_true rfl) (w' := wX8 cy a0 a1 a2 a3 a4 a5 a6 st gr hi gh rc tx 0 rk tb tk at_ ltr on_ tw th nu) rfl dX8_clearText_7 (fun H locs hP hD hS => ?_)
  refine lv_iload_n hx hb dX8_clearText_10 rfl (lv_at hl 0 rfl) ?_
  have hf := Option.some.inj hf
  cases hf
  exact x_iret hx hb hr hlocks hK hP hD hS dX8_clearText_11
theorem kdX8_character : yX8_character.cls = RX8 ∧ yX8_character.cls ≠ "java/lang/invoke/MethodHandle" ∧ yX8_character.cls ≠ "java/lang/invoke/VarHandle" ∧ (parseMethodDescriptor yX8_character.desc).map (fun d => d.parameters.length) = some 1 := by decide +kernel
def rmX8_character : Room := { frames := 0, cells := 0, slots := 0, locals := 0 }
set_option maxHeartbeats 4000000 in
set_option maxRecDepth 100000 in
theorem mX8_character (l : Launch) (D : va_G) (cy : Nat → ClassId) (a0 a1 a2 a3 a4 a5 a6 : Nat) (st : Nat → Int32) (gr : Nat → Int64) (hi : Nat → Int32) (gh : Nat → Int64) (rc : Int32) (tx : Nat → Int32) (tl : Int32) (rk : Nat → Int32) (tb : Int32) (tk : Int64) (at_ : Int32) (ltr : Int32) (on_ : Int32) (tw : Int32) (th : Int32) (nu : Int32) (p1 : Int32) (r : Int32) (hf : fX8_character tx tl p1 = some r) : xMi l D cy yX8_character aX8_character rmX8_character ([.ref a0, .int p1] : List Value) (wX8 cy a0 a1 a2 a3 a4 a5 a6 st gr hi gh rc tx tl rk tb tk at_ ltr on_ tw th nu) (wX8 cy a0 a1 a2 a3 a4 a5 a6 st gr hi gh rc tx tl rk tb tk at_ ltr on_ tw th nu) r := by
  intro hz
  refine x_start (Qc := xQi D cy _ r) (cc := cX8_character) (maxL := 2) (ret := (some .int)) (by decide) rfl (Nat.le_of_ble_eq_true rfl) (lv := [(0, .ref a0), (1, .int p1)]) rfl ?_
  intro p e s m below meth c ls A hx hb hr hml hown hts hlocks hK hP hD hS hA hN hl
  have hown : s.vm.findClass RX8 = some m.cls := hown
  have hbg : ∀ w ∈ wsL_law, w ∈ aX8_character := fun w h => List.mem_cons_of_mem _ h
  have wd0 : (Cond.fieldLink RX8 207 "ClientMoneyBookModel" "textLength" "I").before ([.ref a0, .int p1] : List Value).toArray s = true := hts _ (List.mem_cons_of_mem _ wm_34_6)
  have wd1 : (Cond.fieldLink RX8 23 "ClientMoneyBookModel" "text" "[I").before ([.ref a0, .int p1] : List Value).toArray s = true := hts _ (List.mem_cons_of_mem _ wm_4_13)
  have iX8 : ∀ w ∈ u_ws RX8 TX8 16, w ∈ aX8_character := fun w h => List.mem_cons_of_mem _ (inlX8 w h)
  unfold fX8_character at hf
  refine lv_iload_n hx hb dX8_character_0 rfl (lv_at hl 1 rfl) ?_
  refine lv_aload_n hx hb dX8_character_1 rfl (lv_at hl 0 rfl) ?_
  refine x_get hx hb (C := RX8) (T := TX8) (N := 16) (ci := 8) hts iX8 hown hK hP 0 rfl rfl 6 (by decide) wd0 rfl (.int tl) rfl dX8_character_2 ?_
  refine lv_icmp_ge (tgt := 17) hx hb dX8_character_5 (by decide) (fun c_1 => ?_) (fun c_1 => ?_)
  · have hf := x_t c_1 hf
    refine lv_iconst (v := (-1)) hx hb dX8_character_17 (by decide) ?_
    have hf := Option.some.inj hf
    cases hf
    exact x_iret hx hb hr hlocks hK hP hD hS dX8_character_18
  · have hf := x_f c_1 hf
    refine lv_aload_n hx hb dX8_character_8 rfl (lv_at hl 0 rfl) ?_
    refine x_get hx hb (C := RX8) (T := TX8) (N := 16) (ci := 8) hts iX8 hown hK hP 0 rfl rfl 5 (by decide) wd1 rfl (.ref a5) rfl dX8_character_9 ?_
    refine lv_iload_n hx hb dX8_character_12 rfl (lv_at hl 1 rfl) ?_
    obtain ⟨hi_2, hf⟩ := ckI_el hf
    refine va_iald hx hb hK hP 5 1 rfl rfl hi_2 dX8_character_13 ?_
    refine lv_goto (tgt := 18) hx hb dX8_character_14 (by decide) ?_
    have hf := Option.some.inj hf
    cases hf
    exact x_iret hx hb hr hlocks hK hP hD hS dX8_character_18
theorem kdX8_isNext : yX8_isNext.cls = RX8 ∧ yX8_isNext.cls ≠ "java/lang/invoke/MethodHandle" ∧ yX8_isNext.cls ≠ "java/lang/invoke/VarHandle" ∧ (parseMethodDescriptor yX8_isNext.desc).map (fun d => d.parameters.length) = some 1 := by decide +kernel
def rmX8_isNext : Room := { frames := 1, cells := 0, slots := 0, locals := 21 }
set_option maxHeartbeats 4000000 in
set_option maxRecDepth 100000 in
theorem mX8_isNext (l : Launch) (D : va_G) (cy : Nat → ClassId) (a0 a1 a2 a3 a4 a5 a6 : Nat) (st : Nat → Int32) (gr : Nat → Int64) (hi : Nat → Int32) (gh : Nat → Int64) (rc : Int32) (tx : Nat → Int32) (tl : Int32) (rk : Nat → Int32) (tb : Int32) (tk : Int64) (at_ : Int32) (ltr : Int32) (on_ : Int32) (tw : Int32) (th : Int32) (nu : Int32) (p1 : Int32) (r : Int32) (at_' : Int32) (hf : fX8_isNext tx tl at_ p1 = some (r, at_')) : xMi l D cy yX8_isNext aX8_isNext rmX8_isNext ([.ref a0, .int p1] : List Value) (wX8 cy a0 a1 a2 a3 a4 a5 a6 st gr hi gh rc tx tl rk tb tk at_ ltr on_ tw th nu) (wX8 cy a0 a1 a2 a3 a4 a5 a6 st gr hi gh rc tx tl rk tb tk at_' ltr on_ tw th nu) r := by
  intro hz
  refine x_start (Qc := xQi D cy _ r) (cc := cX8_isNext) (maxL := 3) (ret := (some .boolean)) (by decide) rfl (Nat.le_of_ble_eq_true rfl) (lv := [(0, .ref a0), (1, .int p1)]) rfl ?_
  intro p e s m below meth c ls A hx hb hr hml hown hts hlocks hK hP hD hS hA hN hl
  have hown : s.vm.findClass RX8 = some m.cls := hown
  have hbg : ∀ w ∈ wsL_law, w ∈ aX8_isNext := fun w h => List.mem_cons_of_mem _ h
  have wd0 : (Cond.fieldLink RX8 210 "ClientMoneyBookModel" "at" "I").before ([.ref a0, .int p1] : List Value).toArray s = true := hts _ (List.mem_cons_of_mem _ wm_39_11)
  have iX8 : ∀ w ∈ u_ws RX8 TX8 16, w ∈ aX8_isNext := fun w h => List.mem_cons_of_mem _ (inlX8 w h)
  unfold fX8_isNext at hf
  refine lv_aload_n hx hb dX8_isNext_0 rfl (lv_at hl 0 rfl) ?_
  refine lv_aload_n hx hb dX8_isNext_1 rfl (lv_at hl 0 rfl) ?_
  refine x_get hx hb (C := RX8) (T := TX8) (N := 16) (ci := 8) hts iX8 hown hK hP 0 rfl rfl 10 (by decide) wd0 rfl (.int at_) rfl dX8_isNext_2 ?_
  obtain ⟨r_1, h_2, hf⟩ := bd1_el hf
  refine x_callVi (As := [.int at_]) (rest := []) ⟨hx, hb, hml, hown, hts⟩ (mX8_character l D cy a0 a1 a2 a3 a4 a5 a6 st gr hi gh rc tx tl rk tb tk at_ ltr on_ tw th nu at_ r_1 h_2) (cwV 1 hts (gcV_X8_character hbg wm_39_21) rfl rfl rfl kdX8_character ⟨Nat.le_of_ble_eq_true rfl, Nat.le_of_ble_eq_true rfl⟩) (w1 := []) (w2 := []) (w' := wX8 cy a0 a1 a2 a3 a4 a5 a6 st gr hi gh rc tx tl rk tb tk at_ ltr on_ tw th nu) (List.append_nil _) (List.append_nil _) hP hK hD hN hS hA (q0 := 0) rfl rfl rfl rfl hl rfl (Nat.le_of_ble_eq_true rfl) dX8_isNext_5 ⟨Nat.zero_le _, Nat.zero_le _⟩ (fun H locs hP hD hS => ?_)
  refine lv_iload_n hx hb dX8_isNext_8 rfl (lv_at hl 1 rfl) ?_
  refine lv_icmp_ne (tgt := 16) hx hb dX8_isNext_9 (by decide) (fun c_3 => ?_) (fun c_3 => ?_)
  · have hf := x_f c_3 hf
    refine lv_iconst (v := 0) hx hb dX8_isNext_16 (by decide) ?_
    refine lv_istore_n (lv' := [(2, .int 0), (0, .ref a0), (1, .int p1)]) hx hb dX8_isNext_17 rfl hl (by decide) rfl (fun ls hl => ?_)
    refine lv_aload_n hx hb dX8_isNext_18 rfl (lv_at hl 1 rfl) ?_
    refine lv_dup hx hb dX8_isNext_19 rfl ?_
    refine x_get hx hb (C := RX8) (T := TX8) (N := 16) (ci := 8) hts iX8 hown hK hP 0 rfl rfl 10 (by decide) wd0 rfl (.int at_) rfl dX8_isNext_20 ?_
    refine lv_iload_n hx hb dX8_isNext_23 rfl (lv_at hl 0 rfl) ?_
    refine lv_if_eq (tgt := 31) hx hb dX8_isNext_24 (by decide) (fun c_4 => ?_) (fun c_4 => ?_)
    · refine lv_iconst (v := 0) hx hb dX8_isNext_31 (by decide) ?_
      refine lv_iadd hx hb dX8_isNext_32 ?_
      obtain ⟨at__5, eat__5, hf⟩ := lt_el hf
      refine x_topi eat__5 ?_
      refine x_put hx hb (C := RX8) (T := TX8) (N := 16) (ci := 8) hts iX8 tyX8 tyX8_ok nmX8 hown hK hP hD hS 0 rfl rfl 10 (by decide) wd0 rfl rfl (ty := .int) rfl rfl rfl (Nat.le_of_ble_eq_true rfl) (w' := wX8 cy a0 a1 a2 a3 a4 a5 a6 st gr hi gh rc tx tl rk tb tk at__5 ltr on_ tw th nu) rfl dX8_isNext_33 (fun H locs hP hD hS => ?_)
      refine lv_iload_n hx hb dX8_isNext_36 rfl (lv_at hl 0 rfl) ?_
      have hf := Option.some.inj hf
      cases hf
      exact x_zret hx hb hr hlocks hK hP hD hS rfl dX8_isNext_37
    · exact absurd (by decide) c_4
  · have hf := x_t c_3 hf
    refine lv_iconst (v := 1) hx hb dX8_isNext_12 (by decide) ?_
    refine lv_goto (tgt := 17) hx hb dX8_isNext_13 (by decide) ?_
    refine lv_istore_n (lv' := [(2, .int 1), (0, .ref a0), (1, .int p1)]) hx hb dX8_isNext_17 rfl hl (by decide) rfl (fun ls hl => ?_)
    refine lv_aload_n hx hb dX8_isNext_18 rfl (lv_at hl 1 rfl) ?_
    refine lv_dup hx hb dX8_isNext_19 rfl ?_
    refine x_get hx hb (C := RX8) (T := TX8) (N := 16) (ci := 8) hts iX8 hown hK hP 0 rfl rfl 10 (by decide) wd0 rfl (.int at_) rfl dX8_isNext_20 ?_
    refine lv_iload_n hx hb dX8_isNext_23 rfl (lv_at hl 0 rfl) ?_
    refine lv_if_eq (tgt := 31) hx hb dX8_isNext_24 (by decide) (fun c_6 => ?_) (fun c_6 => ?_)
    · exact absurd c_6 (by decide)
    · refine lv_iconst (v := 1) hx hb dX8_isNext_27 (by decide) ?_
      refine lv_goto (tgt := 32) hx hb dX8_isNext_28 (by decide) ?_
      refine lv_iadd hx hb dX8_isNext_32 ?_
      obtain ⟨at__7, eat__7, hf⟩ := lt_el hf
      refine x_topi eat__7 ?_
      refine x_put hx hb (C := RX8) (T := TX8) (N := 16) (ci := 8) hts iX8 tyX8 tyX8_ok nmX8 hown hK hP hD hS 0 rfl rfl 10 (by decide) wd0 rfl rfl (ty := .int) rfl rfl rfl (Nat.le_of_ble_eq_true rfl) (w' := wX8 cy a0 a1 a2 a3 a4 a5 a6 st gr hi gh rc tx tl rk tb tk at__7 ltr on_ tw th nu) rfl dX8_isNext_33 (fun H locs hP hD hS => ?_)
      refine lv_iload_n hx hb dX8_isNext_36 rfl (lv_at hl 0 rfl) ?_
      have hf := Option.some.inj hf
      cases hf
      exact x_zret hx hb hr hlocks hK hP hD hS rfl dX8_isNext_37
theorem kdX8_readsNumber : yX8_readsNumber.cls = RX8 ∧ yX8_readsNumber.cls ≠ "java/lang/invoke/MethodHandle" ∧ yX8_readsNumber.cls ≠ "java/lang/invoke/VarHandle" ∧ (parseMethodDescriptor yX8_readsNumber.desc).map (fun d => d.parameters.length) = some 0 := by decide +kernel
def rmX8_readsNumber : Room := { frames := 1, cells := 0, slots := 0, locals := 22 }
set_option maxHeartbeats 4000000 in
set_option maxRecDepth 100000 in
theorem mX8_readsNumber (l : Launch) (D : va_G) (cy : Nat → ClassId) (a0 a1 a2 a3 a4 a5 a6 : Nat) (st : Nat → Int32) (gr : Nat → Int64) (hi : Nat → Int32) (gh : Nat → Int64) (rc : Int32) (tx : Nat → Int32) (tl : Int32) (rk : Nat → Int32) (tb : Int32) (tk : Int64) (at_ : Int32) (ltr : Int32) (on_ : Int32) (tw : Int32) (th : Int32) (nu : Int32)  (r : Int32) (at_' : Int32) (nu' : Int32) (hf : fX8_readsNumber tx tl at_ nu = some (r, at_', nu')) : xMi l D cy yX8_readsNumber aX8_readsNumber rmX8_readsNumber ([.ref a0] : List Value) (wX8 cy a0 a1 a2 a3 a4 a5 a6 st gr hi gh rc tx tl rk tb tk at_ ltr on_ tw th nu) (wX8 cy a0 a1 a2 a3 a4 a5 a6 st gr hi gh rc tx tl rk tb tk at_' ltr on_ tw th nu') r := by
  intro hz
  refine x_start (Qc := xQi D cy _ r) (cc := cX8_readsNumber) (maxL := 2) (ret := (some .boolean)) (by decide) rfl (Nat.le_of_ble_eq_true rfl) (lv := [(0, .ref a0)]) rfl ?_
  intro p e s m below meth c ls A hx hb hr hml hown hts hlocks hK hP hD hS hA hN hl
  have hown : s.vm.findClass RX8 = some m.cls := hown
  have hbg : ∀ w ∈ wsL_law, w ∈ aX8_readsNumber := fun w h => List.mem_cons_of_mem _ h
  have wd0 : (Cond.fieldLink RX8 216 "ClientMoneyBookModel" "number" "I").before ([.ref a0] : List Value).toArray s = true := hts _ (List.mem_cons_of_mem _ wm_39_17)
  have wd1 : (Cond.fieldLink RX8 210 "ClientMoneyBookModel" "at" "I").before ([.ref a0] : List Value).toArray s = true := hts _ (List.mem_cons_of_mem _ wm_39_11)
  have iX8 : ∀ w ∈ u_ws RX8 TX8 16, w ∈ aX8_readsNumber := fun w h => List.mem_cons_of_mem _ (inlX8 w h)
  unfold fX8_readsNumber at hf
  refine lv_aload_n hx hb dX8_readsNumber_0 rfl (lv_at hl 0 rfl) ?_
  refine lv_iconst (v := 0) hx hb dX8_readsNumber_1 (by decide) ?_
  refine x_put hx hb (C := RX8) (T := TX8) (N := 16) (ci := 8) hts iX8 tyX8 tyX8_ok nmX8 hown hK hP hD hS 0 rfl rfl 15 (by decide) wd0 rfl rfl (ty := .int) rfl rfl rfl (Nat.le_of_ble_eq_true rfl) (w' := wX8 cy a0 a1 a2 a3 a4 a5 a6 st gr hi gh rc tx tl rk tb tk at_ ltr on_ tw th 0) rfl dX8_readsNumber_2 (fun H locs hP hD hS => ?_)
  refine lv_iconst (v := 0) hx hb dX8_readsNumber_5 (by decide) ?_
  refine lv_istore_n (lv' := [(1, .int 0), (0, .ref a0)]) hx hb dX8_readsNumber_6 rfl hl (by decide) rfl (fun ls hl => ?_)
  have hL_7 : ∀ (n : Nat) (at__15 : Int32) (nu_16 : Int32) (z1_17 : Int32) (o : Int32 × Int32 × Int32) (H : Heap) (locs : List Loc) (ls : Array Slot), fX8_readsNumber_L7 tx tl n at__15 nu_16 z1_17 = some o → va_P D vwCl (wX8 cy a0 a1 a2 a3 a4 a5 a6 st gr hi gh rc tx tl rk tb tk at__15 ltr on_ tw th nu_16) H → va_D A (wX8 cy a0 a1 a2 a3 a4 a5 a6 st gr hi gh rc tx tl rk tb tk at__15 ltr on_ tw th nu_16) → va_S A s.heap H locs → lv_has ls 2 [(0, .ref a0), (1, .int z1_17)] → True → ((∀ (at__18 : Int32) (nu_19 : Int32) (x1_20 : Int32) , o = (at__18, nu_19, x1_20) → ∀ (H : Heap) (locs : List Loc) (ls : Array Slot), va_P D vwCl (wX8 cy a0 a1 a2 a3 a4 a5 a6 st gr hi gh rc tx tl rk tb tk at__18 ltr on_ tw th nu_19) H → va_D A (wX8 cy a0 a1 a2 a3 a4 a5 a6 st gr hi gh rc tx tl rk tb tk at__18 ltr on_ tw th nu_19) → va_S A s.heap H locs → lv_has ls 2 [(1, .int x1_20)] → W p l e rmX8_readsNumber s m ([.ref a0] : List Value).toArray below meth c H locs 0 0 (MQ below (xQi D cy (wX8 cy a0 a1 a2 a3 a4 a5 a6 st gr hi gh rc tx tl rk tb tk at_' ltr on_ tw th nu') r A) ([.ref a0] : List Value).toArray s 0 0 A) (F0 m 70 ls []))) → W p l e rmX8_readsNumber s m ([.ref a0] : List Value).toArray below meth c H locs 0 0 (MQ below (xQi D cy (wX8 cy a0 a1 a2 a3 a4 a5 a6 st gr hi gh rc tx tl rk tb tk at_' ltr on_ tw th nu') r A) ([.ref a0] : List Value).toArray s 0 0 A) (F0 m 7 ls []) := by
    intro n
    induction n with
    | zero =>
      intro at__15 nu_16 z1_17 o_7 H locs ls hf
      rw [fX8_readsNumber_L7] at hf
      cases hf
    | succ n ih =>
      intro at__15 nu_16 z1_17 o_7 H locs ls hf hP hD hS hl hr_7 kx_7
      rw [fX8_readsNumber_L7] at hf
      refine lv_iload_n hx hb dX8_readsNumber_7 rfl (lv_at hl 1 rfl) ?_
      refine lv_bipush (v := 6) hx hb dX8_readsNumber_8 (by decide) ?_
      refine lv_icmp_ge (tgt := 70) hx hb dX8_readsNumber_10 (by decide) (fun c_21 => ?_) (fun c_21 => ?_)
      · have hf := x_t c_21 hf
        exact kx_7 at__15 nu_16 z1_17 (Option.some.inj hf).symm _ _ _ hP hD hS (lv_sub hl [1] rfl)
      · have hf := x_f c_21 hf
        refine lv_aload_n hx hb dX8_readsNumber_13 rfl (lv_at hl 0 rfl) ?_
        refine lv_aload_n hx hb dX8_readsNumber_14 rfl (lv_at hl 0 rfl) ?_
        refine x_get hx hb (C := RX8) (T := TX8) (N := 16) (ci := 8) hts iX8 hown hK hP 0 rfl rfl 10 (by decide) wd1 rfl (.int at__15) rfl dX8_readsNumber_15 ?_
        obtain ⟨r_22, h_23, hf⟩ := bd1_el hf
        refine x_callVi (As := [.int at__15]) (rest := []) ⟨hx, hb, hml, hown, hts⟩ (mX8_character l D cy a0 a1 a2 a3 a4 a5 a6 st gr hi gh rc tx tl rk tb tk at__15 ltr on_ tw th nu_16 at__15 r_22 h_23) (cwV 1 hts (gcV_X8_character hbg wm_39_21) rfl rfl rfl kdX8_character ⟨Nat.le_of_ble_eq_true rfl, Nat.le_of_ble_eq_true rfl⟩) (w1 := []) (w2 := []) (w' := wX8 cy a0 a1 a2 a3 a4 a5 a6 st gr hi gh rc tx tl rk tb tk at__15 ltr on_ tw th nu_16) (List.append_nil _) (List.append_nil _) hP hK hD hN hS hA (q0 := 0) rfl rfl rfl rfl hl rfl (Nat.le_of_ble_eq_true rfl) dX8_readsNumber_18 ⟨Nat.zero_le _, Nat.zero_le _⟩ (fun H locs hP hD hS => ?_)
        refine lv_bipush (v := 48) hx hb dX8_readsNumber_21 (by decide) ?_
        refine lv_bipush (v := 57) hx hb dX8_readsNumber_23 (by decide) ?_
        obtain ⟨r_24, h_25, hf⟩ := bd1_el hf
        refine x_callSi (As := [.int r_22, .int 48, .int 57]) (rest := []) ⟨hx, hb, hml, hown, hts⟩ (mX8_within l D cy   r_22 48 57 r_24 h_25) (va_cwS 3 hts (gcS_X8_within hbg wm_7_0) rfl rfl rfl kdX8_within ⟨Nat.le_of_ble_eq_true rfl, Nat.le_of_ble_eq_true rfl⟩) (w1 := []) (w2 := wX8 cy a0 a1 a2 a3 a4 a5 a6 st gr hi gh rc tx tl rk tb tk at__15 ltr on_ tw th nu_16) (w' := wX8 cy a0 a1 a2 a3 a4 a5 a6 st gr hi gh rc tx tl rk tb tk at__15 ltr on_ tw th nu_16) rfl rfl hP hK hD hN hS hA rfl hl rfl (Nat.le_of_ble_eq_true rfl) dX8_readsNumber_25 ⟨Nat.zero_le _, Nat.zero_le _⟩ (fun H locs hP hD hS => ?_)
        refine lv_if_eq (tgt := 70) hx hb dX8_readsNumber_28 (by decide) (fun c_26 => ?_) (fun c_26 => ?_)
        · have hf := x_t c_26 hf
          exact kx_7 at__15 nu_16 z1_17 (Option.some.inj hf).symm _ _ _ hP hD hS (lv_sub hl [1] rfl)
        · have hf := x_f c_26 hf
          refine lv_aload_n hx hb dX8_readsNumber_31 rfl (lv_at hl 0 rfl) ?_
          refine lv_bipush (v := 10) hx hb dX8_readsNumber_32 (by decide) ?_
          refine lv_aload_n hx hb dX8_readsNumber_34 rfl (lv_at hl 0 rfl) ?_
          refine x_get hx hb (C := RX8) (T := TX8) (N := 16) (ci := 8) hts iX8 hown hK hP 0 rfl rfl 15 (by decide) wd0 rfl (.int nu_16) rfl dX8_readsNumber_35 ?_
          refine lv_imul hx hb dX8_readsNumber_38 ?_
          refine lv_aload_n hx hb dX8_readsNumber_39 rfl (lv_at hl 0 rfl) ?_
          refine lv_aload_n hx hb dX8_readsNumber_40 rfl (lv_at hl 0 rfl) ?_
          refine x_get hx hb (C := RX8) (T := TX8) (N := 16) (ci := 8) hts iX8 hown hK hP 0 rfl rfl 10 (by decide) wd1 rfl (.int at__15) rfl dX8_readsNumber_41 ?_
          obtain ⟨r_27, h_28, hf⟩ := bd1_el hf
          refine x_callVi (As := [.int at__15]) (rest := [.int (10 * nu_16), .ref a0]) ⟨hx, hb, hml, hown, hts⟩ (mX8_character l D cy a0 a1 a2 a3 a4 a5 a6 st gr hi gh rc tx tl rk tb tk at__15 ltr on_ tw th nu_16 at__15 r_27 h_28) (cwV 1 hts (gcV_X8_character hbg wm_39_21) rfl rfl rfl kdX8_character ⟨Nat.le_of_ble_eq_true rfl, Nat.le_of_ble_eq_true rfl⟩) (w1 := []) (w2 := []) (w' := wX8 cy a0 a1 a2 a3 a4 a5 a6 st gr hi gh rc tx tl rk tb tk at__15 ltr on_ tw th nu_16) (List.append_nil _) (List.append_nil _) hP hK hD hN hS hA (q0 := 0) rfl rfl rfl rfl hl rfl (Nat.le_of_ble_eq_true rfl) dX8_readsNumber_44 ⟨Nat.zero_le _, Nat.zero_le _⟩ (fun H locs hP hD hS => ?_)
          refine lv_iadd hx hb dX8_readsNumber_47 ?_
          refine lv_bipush (v := 48) hx hb dX8_readsNumber_48 (by decide) ?_
          refine lv_isub hx hb dX8_readsNumber_50 ?_
          obtain ⟨nu_29, enu_29, hf⟩ := lt_el hf
          refine x_topi enu_29 ?_
          refine x_put hx hb (C := RX8) (T := TX8) (N := 16) (ci := 8) hts iX8 tyX8 tyX8_ok nmX8 hown hK hP hD hS 0 rfl rfl 15 (by decide) wd0 rfl rfl (ty := .int) rfl rfl rfl (Nat.le_of_ble_eq_true rfl) (w' := wX8 cy a0 a1 a2 a3 a4 a5 a6 st gr hi gh rc tx tl rk tb tk at__15 ltr on_ tw th nu_29) rfl dX8_readsNumber_51 (fun H locs hP hD hS => ?_)
          refine lv_iinc (v := (z1_17 + 1)) (lv' := [(1, .int (z1_17 + 1)), (0, .ref a0)]) hx hb dX8_readsNumber_54 hl (k := 1) rfl rfl (by decide) rfl (fun ls hl => ?_)
          refine lv_aload_n hx hb dX8_readsNumber_57 rfl (lv_at hl 1 rfl) ?_
          refine lv_dup hx hb dX8_readsNumber_58 rfl ?_
          refine x_get hx hb (C := RX8) (T := TX8) (N := 16) (ci := 8) hts iX8 hown hK hP 0 rfl rfl 10 (by decide) wd1 rfl (.int at__15) rfl dX8_readsNumber_59 ?_
          refine lv_iconst (v := 1) hx hb dX8_readsNumber_62 (by decide) ?_
          refine lv_iadd hx hb dX8_readsNumber_63 ?_
          obtain ⟨at__30, eat__30, hf⟩ := lt_el hf
          refine x_topi eat__30 ?_
          refine x_put hx hb (C := RX8) (T := TX8) (N := 16) (ci := 8) hts iX8 tyX8 tyX8_ok nmX8 hown hK hP hD hS 0 rfl rfl 10 (by decide) wd1 rfl rfl (ty := .int) rfl rfl rfl (Nat.le_of_ble_eq_true rfl) (w' := wX8 cy a0 a1 a2 a3 a4 a5 a6 st gr hi gh rc tx tl rk tb tk at__30 ltr on_ tw th nu_29) rfl dX8_readsNumber_64 (fun H locs hP hD hS => ?_)
          refine lv_goto (tgt := 7) hx hb dX8_readsNumber_67 (by decide) ?_
          exact ih at__30 nu_29 (z1_17 + 1) _ _ _ _ hf hP hD hS (lv_sub hl [1, 0] rfl) hr_7 kx_7
  obtain ⟨at__11, nu_12, x1_13, h1_7, hf⟩ := bd3_el hf
  refine hL_7 2147483648 at_ 0 0 _ _ _ _ h1_7 hP hD hS (lv_sub hl [1, 0] rfl) trivial (fun at__119 nu_129 x1_139 ho H locs ls hP hD hS hl => ?_)
  cases ho
  refine lv_iload_n hx hb dX8_readsNumber_70 rfl (lv_at hl 0 rfl) ?_
  refine lv_if_le (tgt := 78) hx hb dX8_readsNumber_71 (by decide) (fun c_14 => ?_) (fun c_14 => ?_)
  · have hf := x_t c_14 hf
    refine lv_iconst (v := 0) hx hb dX8_readsNumber_78 (by decide) ?_
    have hf := Option.some.inj hf
    cases hf
    exact x_zret hx hb hr hlocks hK hP hD hS rfl dX8_readsNumber_79
  · have hf := x_f c_14 hf
    refine lv_iconst (v := 1) hx hb dX8_readsNumber_74 (by decide) ?_
    refine lv_goto (tgt := 79) hx hb dX8_readsNumber_75 (by decide) ?_
    have hf := Option.some.inj hf
    cases hf
    exact x_zret hx hb hr hlocks hK hP hD hS rfl dX8_readsNumber_79
theorem kdX8_readsOrder : yX8_readsOrder.cls = RX8 ∧ yX8_readsOrder.cls ≠ "java/lang/invoke/MethodHandle" ∧ yX8_readsOrder.cls ≠ "java/lang/invoke/VarHandle" ∧ (parseMethodDescriptor yX8_readsOrder.desc).map (fun d => d.parameters.length) = some 0 := by decide +kernel
def rmX8_readsOrder : Room := { frames := 2, cells := 0, slots := 0, locals := 43 }
set_option maxHeartbeats 4000000 in
set_option maxRecDepth 100000 in
theorem mX8_readsOrder (l : Launch) (D : va_G) (cy : Nat → ClassId) (a0 a1 a2 a3 a4 a5 a6 : Nat) (st : Nat → Int32) (gr : Nat → Int64) (hi : Nat → Int32) (gh : Nat → Int64) (rc : Int32) (tx : Nat → Int32) (tl : Int32) (rk : Nat → Int32) (tb : Int32) (tk : Int64) (at_ : Int32) (ltr : Int32) (on_ : Int32) (tw : Int32) (th : Int32) (nu : Int32)  (r : Int32) (at_' : Int32) (ltr' : Int32) (on_' : Int32) (tw' : Int32) (th' : Int32) (nu' : Int32) (hf : fX8_readsOrder tx tl at_ ltr on_ tw th nu = some (r, at_', ltr', on_', tw', th', nu')) : xMi l D cy yX8_readsOrder aX8_readsOrder rmX8_readsOrder ([.ref a0] : List Value) (wX8 cy a0 a1 a2 a3 a4 a5 a6 st gr hi gh rc tx tl rk tb tk at_ ltr on_ tw th nu) (wX8 cy a0 a1 a2 a3 a4 a5 a6 st gr hi gh rc tx tl rk tb tk at_' ltr' on_' tw' th' nu') r := by
  intro hz
  refine x_start (Qc := xQi D cy _ r) (cc := cX8_readsOrder) (maxL := 2) (ret := (some .boolean)) (by decide) rfl (Nat.le_of_ble_eq_true rfl) (lv := [(0, .ref a0)]) rfl ?_
  intro p e s m below meth c ls A hx hb hr hml hown hts hlocks hK hP hD hS hA hN hl
  have hown : s.vm.findClass RX8 = some m.cls := hown
  have hbg : ∀ w ∈ wsL_law, w ∈ aX8_readsOrder := fun w h => List.mem_cons_of_mem _ h
  have wd0 : (Cond.fieldLink RX8 210 "ClientMoneyBookModel" "at" "I").before ([.ref a0] : List Value).toArray s = true := hts _ (List.mem_cons_of_mem _ wm_39_11)
  have wd1 : (Cond.fieldLink RX8 219 "ClientMoneyBookModel" "letter" "I").before ([.ref a0] : List Value).toArray s = true := hts _ (List.mem_cons_of_mem _ wm_39_16)
  have wd2 : (Cond.fieldLink RX8 216 "ClientMoneyBookModel" "number" "I").before ([.ref a0] : List Value).toArray s = true := hts _ (List.mem_cons_of_mem _ wm_39_17)
  have wd3 : (Cond.fieldLink RX8 226 "ClientMoneyBookModel" "one" "I").before ([.ref a0] : List Value).toArray s = true := hts _ (List.mem_cons_of_mem _ wm_39_18)
  have wd4 : (Cond.fieldLink RX8 235 "ClientMoneyBookModel" "three" "I").before ([.ref a0] : List Value).toArray s = true := hts _ (List.mem_cons_of_mem _ wm_39_20)
  have wd5 : (Cond.fieldLink RX8 232 "ClientMoneyBookModel" "two" "I").before ([.ref a0] : List Value).toArray s = true := hts _ (List.mem_cons_of_mem _ wm_39_19)
  have iX8 : ∀ w ∈ u_ws RX8 TX8 16, w ∈ aX8_readsOrder := fun w h => List.mem_cons_of_mem _ (inlX8 w h)
  have hfX8_readsOrder_J109 : ∀ (tx : Nat → Int32) (tl : Int32) (at_ : Int32) (ltr : Int32) (on_ : Int32) (tw : Int32) (th : Int32) (nu : Int32) (u1 : Int32) (H : Heap) (locs : List Loc) (ls : Array Slot), fX8_readsOrder_J109 tx tl at_ ltr on_ tw th nu u1 = some (r, at_', ltr', on_', tw', th', nu') → va_P D vwCl (wX8 cy a0 a1 a2 a3 a4 a5 a6 st gr hi gh rc tx tl rk tb tk at_ ltr on_ tw th nu) H → va_D A (wX8 cy a0 a1 a2 a3 a4 a5 a6 st gr hi gh rc tx tl rk tb tk at_ ltr on_ tw th nu) → va_S A s.heap H locs → lv_has ls 2 [(1, .int u1)] → W p l e rmX8_readsOrder s m ([.ref a0] : List Value).toArray below meth c H locs 0 0 (MQ below (xQi D cy (wX8 cy a0 a1 a2 a3 a4 a5 a6 st gr hi gh rc tx tl rk tb tk at_' ltr' on_' tw' th' nu') r A) ([.ref a0] : List Value).toArray s 0 0 A) (F0 m 109 ls []) := by
    intro tx tl at_ ltr on_ tw th nu u1 H locs ls hf hP hD hS hl
    unfold fX8_readsOrder_J109 at hf
    refine lv_iload_n hx hb dX8_readsOrder_109 rfl (lv_at hl 0 rfl) ?_
    obtain ⟨hnr, hf⟩ := ckP_el hf
    have hf := Option.some.inj hf
    cases hf
    exact x_zret hx hb hr hlocks hK hP hD hS hnr dX8_readsOrder_110
  have hfX8_readsOrder_J178 : ∀ (tx : Nat → Int32) (tl : Int32) (at_ : Int32) (ltr : Int32) (on_ : Int32) (tw : Int32) (th : Int32) (nu : Int32) (H : Heap) (locs : List Loc) (ls : Array Slot), fX8_readsOrder_J178 tx tl at_ ltr on_ tw th nu = some (r, at_', ltr', on_', tw', th', nu') → va_P D vwCl (wX8 cy a0 a1 a2 a3 a4 a5 a6 st gr hi gh rc tx tl rk tb tk at_ ltr on_ tw th nu) H → va_D A (wX8 cy a0 a1 a2 a3 a4 a5 a6 st gr hi gh rc tx tl rk tb tk at_ ltr on_ tw th nu) → va_S A s.heap H locs → lv_has ls 2 [(0, .ref a0)] → W p l e rmX8_readsOrder s m ([.ref a0] : List Value).toArray below meth c H locs 0 0 (MQ below (xQi D cy (wX8 cy a0 a1 a2 a3 a4 a5 a6 st gr hi gh rc tx tl rk tb tk at_' ltr' on_' tw' th' nu') r A) ([.ref a0] : List Value).toArray s 0 0 A) (F0 m 178 ls []) := by
    intro tx tl at_ ltr on_ tw th nu H locs ls hf hP hD hS hl
    unfold fX8_readsOrder_J178 at hf
    refine lv_iconst (v := 0) hx hb dX8_readsOrder_178 (by decide) ?_
    refine lv_istore_n (lv' := [(1, .int 0), (0, .ref a0)]) hx hb dX8_readsOrder_179 rfl hl (by decide) rfl (fun ls hl => ?_)
    refine lv_aload_n hx hb dX8_readsOrder_180 rfl (lv_at hl 1 rfl) ?_
    refine lv_aload_n hx hb dX8_readsOrder_181 rfl (lv_at hl 1 rfl) ?_
    refine x_get hx hb (C := RX8) (T := TX8) (N := 16) (ci := 8) hts iX8 hown hK hP 0 rfl rfl 15 (by decide) wd2 rfl (.int nu) rfl dX8_readsOrder_182 ?_
    refine x_put hx hb (C := RX8) (T := TX8) (N := 16) (ci := 8) hts iX8 tyX8 tyX8_ok nmX8 hown hK hP hD hS 0 rfl rfl 14 (by decide) wd4 rfl rfl (ty := .int) rfl rfl rfl (Nat.le_of_ble_eq_true rfl) (w' := wX8 cy a0 a1 a2 a3 a4 a5 a6 st gr hi gh rc tx tl rk tb tk at_ ltr on_ tw nu nu) rfl dX8_readsOrder_185 (fun H locs hP hD hS => ?_)
    refine lv_iload_n hx hb dX8_readsOrder_188 rfl (lv_at hl 0 rfl) ?_
    have hf := Option.some.inj hf
    cases hf
    exact x_zret hx hb hr hlocks hK hP hD hS rfl dX8_readsOrder_189
  have hfX8_readsOrder_J154 : ∀ (tx : Nat → Int32) (tl : Int32) (at_ : Int32) (ltr : Int32) (on_ : Int32) (tw : Int32) (th : Int32) (nu : Int32) (u1 : Int32) (H : Heap) (locs : List Loc) (ls : Array Slot), fX8_readsOrder_J154 tx tl at_ ltr on_ tw th nu u1 = some (r, at_', ltr', on_', tw', th', nu') → va_P D vwCl (wX8 cy a0 a1 a2 a3 a4 a5 a6 st gr hi gh rc tx tl rk tb tk at_ ltr on_ tw th nu) H → va_D A (wX8 cy a0 a1 a2 a3 a4 a5 a6 st gr hi gh rc tx tl rk tb tk at_ ltr on_ tw th nu) → va_S A s.heap H locs → lv_has ls 2 [(0, .ref a0), (1, .int u1)] → W p l e rmX8_readsOrder s m ([.ref a0] : List Value).toArray below meth c H locs 0 0 (MQ below (xQi D cy (wX8 cy a0 a1 a2 a3 a4 a5 a6 st gr hi gh rc tx tl rk tb tk at_' ltr' on_' tw' th' nu') r A) ([.ref a0] : List Value).toArray s 0 0 A) (F0 m 154 ls []) := by
    intro tx tl at_ ltr on_ tw th nu u1 H locs ls hf hP hD hS hl
    unfold fX8_readsOrder_J154 at hf
    refine lv_iload_n hx hb dX8_readsOrder_154 rfl (lv_at hl 1 rfl) ?_
    refine lv_if_eq (tgt := 178) hx hb dX8_readsOrder_155 (by decide) (fun c_12 => ?_) (fun c_12 => ?_)
    · have hf := x_t c_12 hf
      exact hfX8_readsOrder_J178 tx tl at_ ltr on_ tw th nu _ _ _ hf hP hD hS (lv_sub hl [0] rfl)
    · have hf := x_f c_12 hf
      refine lv_aload_n hx hb dX8_readsOrder_158 rfl (lv_at hl 0 rfl) ?_
      refine lv_bipush (v := 58) hx hb dX8_readsOrder_159 (by decide) ?_
      obtain ⟨r_13, at__14, h_15, hf⟩ := bd2_el hf
      refine x_callVi (As := [.int 58]) (rest := []) ⟨hx, hb, hml, hown, hts⟩ (mX8_isNext l D cy a0 a1 a2 a3 a4 a5 a6 st gr hi gh rc tx tl rk tb tk at_ ltr on_ tw th nu 58 r_13 at__14 h_15) (cwV 1 hts (gcV_X8_isNext hbg wm_40_5) rfl rfl rfl kdX8_isNext ⟨Nat.le_of_ble_eq_true rfl, Nat.le_of_ble_eq_true rfl⟩) (w1 := []) (w2 := []) (w' := wX8 cy a0 a1 a2 a3 a4 a5 a6 st gr hi gh rc tx tl rk tb tk at__14 ltr on_ tw th nu) (List.append_nil _) (List.append_nil _) hP hK hD hN hS hA (q0 := 0) rfl rfl rfl rfl hl rfl (Nat.le_of_ble_eq_true rfl) dX8_readsOrder_161 ⟨Nat.zero_le _, Nat.zero_le _⟩ (fun H locs hP hD hS => ?_)
      refine lv_if_eq (tgt := 178) hx hb dX8_readsOrder_164 (by decide) (fun c_16 => ?_) (fun c_16 => ?_)
      · have hf := x_t c_16 hf
        exact hfX8_readsOrder_J178 tx tl at__14 ltr on_ tw th nu _ _ _ hf hP hD hS (lv_sub hl [0] rfl)
      · have hf := x_f c_16 hf
        refine lv_aload_n hx hb dX8_readsOrder_167 rfl (lv_at hl 0 rfl) ?_
        obtain ⟨r_17, at__18, nu_19, h_20, hf⟩ := bd3_el hf
        refine x_callVi (As := []) (rest := []) ⟨hx, hb, hml, hown, hts⟩ (mX8_readsNumber l D cy a0 a1 a2 a3 a4 a5 a6 st gr hi gh rc tx tl rk tb tk at__14 ltr on_ tw th nu  r_17 at__18 nu_19 h_20) (cwV 0 hts (gcV_X8_readsNumber hbg wm_40_1) rfl rfl rfl kdX8_readsNumber ⟨Nat.le_of_ble_eq_true rfl, Nat.le_of_ble_eq_true rfl⟩) (w1 := []) (w2 := []) (w' := wX8 cy a0 a1 a2 a3 a4 a5 a6 st gr hi gh rc tx tl rk tb tk at__18 ltr on_ tw th nu_19) (List.append_nil _) (List.append_nil _) hP hK hD hN hS hA (q0 := 0) rfl rfl rfl rfl hl rfl (Nat.le_of_ble_eq_true rfl) dX8_readsOrder_168 ⟨Nat.zero_le _, Nat.zero_le _⟩ (fun H locs hP hD hS => ?_)
        refine lv_if_eq (tgt := 178) hx hb dX8_readsOrder_171 (by decide) (fun c_21 => ?_) (fun c_21 => ?_)
        · have hf := x_t c_21 hf
          exact hfX8_readsOrder_J178 tx tl at__18 ltr on_ tw th nu_19 _ _ _ hf hP hD hS (lv_sub hl [0] rfl)
        · have hf := x_f c_21 hf
          refine lv_iconst (v := 1) hx hb dX8_readsOrder_174 (by decide) ?_
          refine lv_goto (tgt := 179) hx hb dX8_readsOrder_175 (by decide) ?_
          refine lv_istore_n (lv' := [(1, .int 1), (0, .ref a0)]) hx hb dX8_readsOrder_179 rfl hl (by decide) rfl (fun ls hl => ?_)
          refine lv_aload_n hx hb dX8_readsOrder_180 rfl (lv_at hl 1 rfl) ?_
          refine lv_aload_n hx hb dX8_readsOrder_181 rfl (lv_at hl 1 rfl) ?_
          refine x_get hx hb (C := RX8) (T := TX8) (N := 16) (ci := 8) hts iX8 hown hK hP 0 rfl rfl 15 (by decide) wd2 rfl (.int nu_19) rfl dX8_readsOrder_182 ?_
          refine x_put hx hb (C := RX8) (T := TX8) (N := 16) (ci := 8) hts iX8 tyX8 tyX8_ok nmX8 hown hK hP hD hS 0 rfl rfl 14 (by decide) wd4 rfl rfl (ty := .int) rfl rfl rfl (Nat.le_of_ble_eq_true rfl) (w' := wX8 cy a0 a1 a2 a3 a4 a5 a6 st gr hi gh rc tx tl rk tb tk at__18 ltr on_ tw nu_19 nu_19) rfl dX8_readsOrder_185 (fun H locs hP hD hS => ?_)
          refine lv_iload_n hx hb dX8_readsOrder_188 rfl (lv_at hl 0 rfl) ?_
          have hf := Option.some.inj hf
          cases hf
          exact x_zret hx hb hr hlocks hK hP hD hS rfl dX8_readsOrder_189
  have hfX8_readsOrder_J145 : ∀ (tx : Nat → Int32) (tl : Int32) (at_ : Int32) (ltr : Int32) (on_ : Int32) (tw : Int32) (th : Int32) (nu : Int32) (s0 : Int32) (H : Heap) (locs : List Loc) (ls : Array Slot), fX8_readsOrder_J145 tx tl at_ ltr on_ tw th nu s0 = some (r, at_', ltr', on_', tw', th', nu') → va_P D vwCl (wX8 cy a0 a1 a2 a3 a4 a5 a6 st gr hi gh rc tx tl rk tb tk at_ ltr on_ tw th nu) H → va_D A (wX8 cy a0 a1 a2 a3 a4 a5 a6 st gr hi gh rc tx tl rk tb tk at_ ltr on_ tw th nu) → va_S A s.heap H locs → lv_has ls 2 [(0, .ref a0)] → W p l e rmX8_readsOrder s m ([.ref a0] : List Value).toArray below meth c H locs 0 0 (MQ below (xQi D cy (wX8 cy a0 a1 a2 a3 a4 a5 a6 st gr hi gh rc tx tl rk tb tk at_' ltr' on_' tw' th' nu') r A) ([.ref a0] : List Value).toArray s 0 0 A) (F0 m 145 ls [.int s0]) := by
    intro tx tl at_ ltr on_ tw th nu s0 H locs ls hf hP hD hS hl
    unfold fX8_readsOrder_J145 at hf
    refine lv_istore_n (lv' := [(1, .int s0), (0, .ref a0)]) hx hb dX8_readsOrder_145 rfl hl (by decide) rfl (fun ls hl => ?_)
    refine lv_aload_n hx hb dX8_readsOrder_146 rfl (lv_at hl 1 rfl) ?_
    refine lv_aload_n hx hb dX8_readsOrder_147 rfl (lv_at hl 1 rfl) ?_
    refine x_get hx hb (C := RX8) (T := TX8) (N := 16) (ci := 8) hts iX8 hown hK hP 0 rfl rfl 15 (by decide) wd2 rfl (.int nu) rfl dX8_readsOrder_148 ?_
    refine x_put hx hb (C := RX8) (T := TX8) (N := 16) (ci := 8) hts iX8 tyX8 tyX8_ok nmX8 hown hK hP hD hS 0 rfl rfl 13 (by decide) wd5 rfl rfl (ty := .int) rfl rfl rfl (Nat.le_of_ble_eq_true rfl) (w' := wX8 cy a0 a1 a2 a3 a4 a5 a6 st gr hi gh rc tx tl rk tb tk at_ ltr on_ nu th nu) rfl dX8_readsOrder_151 (fun H locs hP hD hS => ?_)
    exact hfX8_readsOrder_J154 tx tl at_ ltr on_ nu th nu s0 _ _ _ hf hP hD hS (lv_sub hl [1, 0] rfl)
  have hfX8_readsOrder_J144 : ∀ (tx : Nat → Int32) (tl : Int32) (at_ : Int32) (ltr : Int32) (on_ : Int32) (tw : Int32) (th : Int32) (nu : Int32) (H : Heap) (locs : List Loc) (ls : Array Slot), fX8_readsOrder_J144 tx tl at_ ltr on_ tw th nu = some (r, at_', ltr', on_', tw', th', nu') → va_P D vwCl (wX8 cy a0 a1 a2 a3 a4 a5 a6 st gr hi gh rc tx tl rk tb tk at_ ltr on_ tw th nu) H → va_D A (wX8 cy a0 a1 a2 a3 a4 a5 a6 st gr hi gh rc tx tl rk tb tk at_ ltr on_ tw th nu) → va_S A s.heap H locs → lv_has ls 2 [(0, .ref a0)] → W p l e rmX8_readsOrder s m ([.ref a0] : List Value).toArray below meth c H locs 0 0 (MQ below (xQi D cy (wX8 cy a0 a1 a2 a3 a4 a5 a6 st gr hi gh rc tx tl rk tb tk at_' ltr' on_' tw' th' nu') r A) ([.ref a0] : List Value).toArray s 0 0 A) (F0 m 144 ls []) := by
    intro tx tl at_ ltr on_ tw th nu H locs ls hf hP hD hS hl
    unfold fX8_readsOrder_J144 at hf
    refine lv_iconst (v := 0) hx hb dX8_readsOrder_144 (by decide) ?_
    exact hfX8_readsOrder_J145 tx tl at_ ltr on_ tw th nu 0 _ _ _ hf hP hD hS (lv_sub hl [0] rfl)
  have hfX8_readsOrder_J68 : ∀ (tx : Nat → Int32) (tl : Int32) (at_ : Int32) (ltr : Int32) (on_ : Int32) (tw : Int32) (th : Int32) (nu : Int32) (H : Heap) (locs : List Loc) (ls : Array Slot), fX8_readsOrder_J68 tx tl at_ ltr on_ tw th nu = some (r, at_', ltr', on_', tw', th', nu') → va_P D vwCl (wX8 cy a0 a1 a2 a3 a4 a5 a6 st gr hi gh rc tx tl rk tb tk at_ ltr on_ tw th nu) H → va_D A (wX8 cy a0 a1 a2 a3 a4 a5 a6 st gr hi gh rc tx tl rk tb tk at_ ltr on_ tw th nu) → va_S A s.heap H locs → lv_has ls 2 [(0, .ref a0)] → W p l e rmX8_readsOrder s m ([.ref a0] : List Value).toArray below meth c H locs 0 0 (MQ below (xQi D cy (wX8 cy a0 a1 a2 a3 a4 a5 a6 st gr hi gh rc tx tl rk tb tk at_' ltr' on_' tw' th' nu') r A) ([.ref a0] : List Value).toArray s 0 0 A) (F0 m 68 ls []) := by
    intro tx tl at_ ltr on_ tw th nu H locs ls hf hP hD hS hl
    unfold fX8_readsOrder_J68 at hf
    refine lv_aload_n hx hb dX8_readsOrder_68 rfl (lv_at hl 0 rfl) ?_
    refine lv_dup hx hb dX8_readsOrder_69 rfl ?_
    refine x_get hx hb (C := RX8) (T := TX8) (N := 16) (ci := 8) hts iX8 hown hK hP 0 rfl rfl 10 (by decide) wd0 rfl (.int at_) rfl dX8_readsOrder_70 ?_
    refine lv_iconst (v := 1) hx hb dX8_readsOrder_73 (by decide) ?_
    refine lv_iadd hx hb dX8_readsOrder_74 ?_
    obtain ⟨at__4, eat__4, hf⟩ := lt_el hf
    refine x_topi eat__4 ?_
    refine x_put hx hb (C := RX8) (T := TX8) (N := 16) (ci := 8) hts iX8 tyX8 tyX8_ok nmX8 hown hK hP hD hS 0 rfl rfl 10 (by decide) wd0 rfl rfl (ty := .int) rfl rfl rfl (Nat.le_of_ble_eq_true rfl) (w' := wX8 cy a0 a1 a2 a3 a4 a5 a6 st gr hi gh rc tx tl rk tb tk at__4 ltr on_ tw th nu) rfl dX8_readsOrder_75 (fun H locs hP hD hS => ?_)
    refine lv_aload_n hx hb dX8_readsOrder_78 rfl (lv_at hl 0 rfl) ?_
    obtain ⟨r_5, at__6, nu_7, h_8, hf⟩ := bd3_el hf
    refine x_callVi (As := []) (rest := []) ⟨hx, hb, hml, hown, hts⟩ (mX8_readsNumber l D cy a0 a1 a2 a3 a4 a5 a6 st gr hi gh rc tx tl rk tb tk at__4 ltr on_ tw th nu  r_5 at__6 nu_7 h_8) (cwV 0 hts (gcV_X8_readsNumber hbg wm_40_1) rfl rfl rfl kdX8_readsNumber ⟨Nat.le_of_ble_eq_true rfl, Nat.le_of_ble_eq_true rfl⟩) (w1 := []) (w2 := []) (w' := wX8 cy a0 a1 a2 a3 a4 a5 a6 st gr hi gh rc tx tl rk tb tk at__6 ltr on_ tw th nu_7) (List.append_nil _) (List.append_nil _) hP hK hD hN hS hA (q0 := 0) rfl rfl rfl rfl hl rfl (Nat.le_of_ble_eq_true rfl) dX8_readsOrder_79 ⟨Nat.zero_le _, Nat.zero_le _⟩ (fun H locs hP hD hS => ?_)
    refine lv_istore_n (lv' := [(1, .int r_5), (0, .ref a0)]) hx hb dX8_readsOrder_82 rfl hl (by decide) rfl (fun ls hl => ?_)
    refine lv_aload_n hx hb dX8_readsOrder_83 rfl (lv_at hl 1 rfl) ?_
    refine lv_aload_n hx hb dX8_readsOrder_84 rfl (lv_at hl 1 rfl) ?_
    refine x_get hx hb (C := RX8) (T := TX8) (N := 16) (ci := 8) hts iX8 hown hK hP 0 rfl rfl 15 (by decide) wd2 rfl (.int nu_7) rfl dX8_readsOrder_85 ?_
    refine x_put hx hb (C := RX8) (T := TX8) (N := 16) (ci := 8) hts iX8 tyX8 tyX8_ok nmX8 hown hK hP hD hS 0 rfl rfl 12 (by decide) wd3 rfl rfl (ty := .int) rfl rfl rfl (Nat.le_of_ble_eq_true rfl) (w' := wX8 cy a0 a1 a2 a3 a4 a5 a6 st gr hi gh rc tx tl rk tb tk at__6 ltr nu_7 tw th nu_7) rfl dX8_readsOrder_88 (fun H locs hP hD hS => ?_)
    refine lv_aload_n hx hb dX8_readsOrder_91 rfl (lv_at hl 1 rfl) ?_
    refine x_get hx hb (C := RX8) (T := TX8) (N := 16) (ci := 8) hts iX8 hown hK hP 0 rfl rfl 11 (by decide) wd1 rfl (.int ltr) rfl dX8_readsOrder_92 ?_
    refine lv_bipush (v := 115) hx hb dX8_readsOrder_95 (by decide) ?_
    refine lv_icmp_eq (tgt := 109) hx hb dX8_readsOrder_97 (by decide) (fun c_9 => ?_) (fun c_9 => ?_)
    · have hf := x_t c_9 hf
      exact hfX8_readsOrder_J109 tx tl at__6 ltr nu_7 tw th nu_7 r_5 _ _ _ hf hP hD hS (lv_sub hl [0] rfl)
    · have hf := x_f c_9 hf
      refine lv_aload_n hx hb dX8_readsOrder_100 rfl (lv_at hl 1 rfl) ?_
      refine x_get hx hb (C := RX8) (T := TX8) (N := 16) (ci := 8) hts iX8 hown hK hP 0 rfl rfl 11 (by decide) wd1 rfl (.int ltr) rfl dX8_readsOrder_101 ?_
      refine lv_bipush (v := 100) hx hb dX8_readsOrder_104 (by decide) ?_
      refine lv_icmp_ne (tgt := 111) hx hb dX8_readsOrder_106 (by decide) (fun c_10 => ?_) (fun c_10 => ?_)
      · have hf := x_f c_10 hf
        refine lv_aload_n hx hb dX8_readsOrder_111 rfl (lv_at hl 1 rfl) ?_
        refine x_get hx hb (C := RX8) (T := TX8) (N := 16) (ci := 8) hts iX8 hown hK hP 0 rfl rfl 11 (by decide) wd1 rfl (.int ltr) rfl dX8_readsOrder_112 ?_
        refine lv_bipush (v := 116) hx hb dX8_readsOrder_115 (by decide) ?_
        refine lv_icmp_ne (tgt := 154) hx hb dX8_readsOrder_117 (by decide) (fun c_11 => ?_) (fun c_11 => ?_)
        · have hf := x_f c_11 hf
          exact hfX8_readsOrder_J154 tx tl at__6 ltr nu_7 tw th nu_7 r_5 _ _ _ hf hP hD hS (lv_sub hl [1, 0] rfl)
        · have hf := x_t c_11 hf
          refine lv_iload_n hx hb dX8_readsOrder_120 rfl (lv_at hl 0 rfl) ?_
          refine lv_if_eq (tgt := 144) hx hb dX8_readsOrder_121 (by decide) (fun c_22 => ?_) (fun c_22 => ?_)
          · have hf := x_t c_22 hf
            exact hfX8_readsOrder_J144 tx tl at__6 ltr nu_7 tw th nu_7 _ _ _ hf hP hD hS (lv_sub hl [1] rfl)
          · have hf := x_f c_22 hf
            refine lv_aload_n hx hb dX8_readsOrder_124 rfl (lv_at hl 1 rfl) ?_
            refine lv_bipush (v := 62) hx hb dX8_readsOrder_125 (by decide) ?_
            obtain ⟨r_23, at__24, h_25, hf⟩ := bd2_el hf
            refine x_callVi (As := [.int 62]) (rest := []) ⟨hx, hb, hml, hown, hts⟩ (mX8_isNext l D cy a0 a1 a2 a3 a4 a5 a6 st gr hi gh rc tx tl rk tb tk at__6 ltr nu_7 tw th nu_7 62 r_23 at__24 h_25) (cwV 1 hts (gcV_X8_isNext hbg wm_40_5) rfl rfl rfl kdX8_isNext ⟨Nat.le_of_ble_eq_true rfl, Nat.le_of_ble_eq_true rfl⟩) (w1 := []) (w2 := []) (w' := wX8 cy a0 a1 a2 a3 a4 a5 a6 st gr hi gh rc tx tl rk tb tk at__24 ltr nu_7 tw th nu_7) (List.append_nil _) (List.append_nil _) hP hK hD hN hS hA (q0 := 0) rfl rfl rfl rfl hl rfl (Nat.le_of_ble_eq_true rfl) dX8_readsOrder_127 ⟨Nat.zero_le _, Nat.zero_le _⟩ (fun H locs hP hD hS => ?_)
            refine lv_if_eq (tgt := 144) hx hb dX8_readsOrder_130 (by decide) (fun c_26 => ?_) (fun c_26 => ?_)
            · have hf := x_t c_26 hf
              exact hfX8_readsOrder_J144 tx tl at__24 ltr nu_7 tw th nu_7 _ _ _ hf hP hD hS (lv_sub hl [1] rfl)
            · have hf := x_f c_26 hf
              refine lv_aload_n hx hb dX8_readsOrder_133 rfl (lv_at hl 1 rfl) ?_
              obtain ⟨r_27, at__28, nu_29, h_30, hf⟩ := bd3_el hf
              refine x_callVi (As := []) (rest := []) ⟨hx, hb, hml, hown, hts⟩ (mX8_readsNumber l D cy a0 a1 a2 a3 a4 a5 a6 st gr hi gh rc tx tl rk tb tk at__24 ltr nu_7 tw th nu_7  r_27 at__28 nu_29 h_30) (cwV 0 hts (gcV_X8_readsNumber hbg wm_40_1) rfl rfl rfl kdX8_readsNumber ⟨Nat.le_of_ble_eq_true rfl, Nat.le_of_ble_eq_true rfl⟩) (w1 := []) (w2 := []) (w' := wX8 cy a0 a1 a2 a3 a4 a5 a6 st gr hi gh rc tx tl rk tb tk at__28 ltr nu_7 tw th nu_29) (List.append_nil _) (List.append_nil _) hP hK hD hN hS hA (q0 := 0) rfl rfl rfl rfl hl rfl (Nat.le_of_ble_eq_true rfl) dX8_readsOrder_134 ⟨Nat.zero_le _, Nat.zero_le _⟩ (fun H locs hP hD hS => ?_)
              refine lv_if_eq (tgt := 144) hx hb dX8_readsOrder_137 (by decide) (fun c_31 => ?_) (fun c_31 => ?_)
              · have hf := x_t c_31 hf
                exact hfX8_readsOrder_J144 tx tl at__28 ltr nu_7 tw th nu_29 _ _ _ hf hP hD hS (lv_sub hl [1] rfl)
              · have hf := x_f c_31 hf
                refine lv_iconst (v := 1) hx hb dX8_readsOrder_140 (by decide) ?_
                refine lv_goto (tgt := 145) hx hb dX8_readsOrder_141 (by decide) ?_
                exact hfX8_readsOrder_J145 tx tl at__28 ltr nu_7 tw th nu_29 1 _ _ _ hf hP hD hS (lv_sub hl [1] rfl)
      · have hf := x_t c_10 hf
        exact hfX8_readsOrder_J109 tx tl at__6 ltr nu_7 tw th nu_7 r_5 _ _ _ hf hP hD hS (lv_sub hl [0] rfl)
  unfold fX8_readsOrder at hf
  refine lv_aload_n hx hb dX8_readsOrder_0 rfl (lv_at hl 0 rfl) ?_
  refine lv_aload_n hx hb dX8_readsOrder_1 rfl (lv_at hl 0 rfl) ?_
  refine lv_aload_n hx hb dX8_readsOrder_2 rfl (lv_at hl 0 rfl) ?_
  refine x_get hx hb (C := RX8) (T := TX8) (N := 16) (ci := 8) hts iX8 hown hK hP 0 rfl rfl 10 (by decide) wd0 rfl (.int at_) rfl dX8_readsOrder_3 ?_
  obtain ⟨r_1, h_2, hf⟩ := bd1_el hf
  refine x_callVi (As := [.int at_]) (rest := [.ref a0]) ⟨hx, hb, hml, hown, hts⟩ (mX8_character l D cy a0 a1 a2 a3 a4 a5 a6 st gr hi gh rc tx tl rk tb tk at_ ltr on_ tw th nu at_ r_1 h_2) (cwV 1 hts (gcV_X8_character hbg wm_39_21) rfl rfl rfl kdX8_character ⟨Nat.le_of_ble_eq_true rfl, Nat.le_of_ble_eq_true rfl⟩) (w1 := []) (w2 := []) (w' := wX8 cy a0 a1 a2 a3 a4 a5 a6 st gr hi gh rc tx tl rk tb tk at_ ltr on_ tw th nu) (List.append_nil _) (List.append_nil _) hP hK hD hN hS hA (q0 := 0) rfl rfl rfl rfl hl rfl (Nat.le_of_ble_eq_true rfl) dX8_readsOrder_6 ⟨Nat.zero_le _, Nat.zero_le _⟩ (fun H locs hP hD hS => ?_)
  refine x_put hx hb (C := RX8) (T := TX8) (N := 16) (ci := 8) hts iX8 tyX8 tyX8_ok nmX8 hown hK hP hD hS 0 rfl rfl 11 (by decide) wd1 rfl rfl (ty := .int) rfl rfl rfl (Nat.le_of_ble_eq_true rfl) (w' := wX8 cy a0 a1 a2 a3 a4 a5 a6 st gr hi gh rc tx tl rk tb tk at_ r_1 on_ tw th nu) rfl dX8_readsOrder_9 (fun H locs hP hD hS => ?_)
  refine lv_aload_n hx hb dX8_readsOrder_12 rfl (lv_at hl 0 rfl) ?_
  refine x_get hx hb (C := RX8) (T := TX8) (N := 16) (ci := 8) hts iX8 hown hK hP 0 rfl rfl 11 (by decide) wd1 rfl (.int r_1) rfl dX8_readsOrder_13 ?_
  refine lv_bipush (v := 114) hx hb dX8_readsOrder_16 (by decide) ?_
  refine lv_icmp_eq (tgt := 68) hx hb dX8_readsOrder_18 (by decide) (fun c_3 => ?_) (fun c_3 => ?_)
  · have hf := x_t c_3 hf
    exact hfX8_readsOrder_J68 tx tl at_ r_1 on_ tw th nu _ _ _ hf hP hD hS (lv_sub hl [0] rfl)
  · have hf := x_f c_3 hf
    refine lv_aload_n hx hb dX8_readsOrder_21 rfl (lv_at hl 0 rfl) ?_
    refine x_get hx hb (C := RX8) (T := TX8) (N := 16) (ci := 8) hts iX8 hown hK hP 0 rfl rfl 11 (by decide) wd1 rfl (.int r_1) rfl dX8_readsOrder_22 ?_
    refine lv_bipush (v := 112) hx hb dX8_readsOrder_25 (by decide) ?_
    refine lv_icmp_eq (tgt := 68) hx hb dX8_readsOrder_27 (by decide) (fun c_32 => ?_) (fun c_32 => ?_)
    · have hf := x_t c_32 hf
      exact hfX8_readsOrder_J68 tx tl at_ r_1 on_ tw th nu _ _ _ hf hP hD hS (lv_sub hl [0] rfl)
    · have hf := x_f c_32 hf
      refine lv_aload_n hx hb dX8_readsOrder_30 rfl (lv_at hl 0 rfl) ?_
      refine x_get hx hb (C := RX8) (T := TX8) (N := 16) (ci := 8) hts iX8 hown hK hP 0 rfl rfl 11 (by decide) wd1 rfl (.int r_1) rfl dX8_readsOrder_31 ?_
      refine lv_bipush (v := 116) hx hb dX8_readsOrder_34 (by decide) ?_
      refine lv_icmp_eq (tgt := 68) hx hb dX8_readsOrder_36 (by decide) (fun c_33 => ?_) (fun c_33 => ?_)
      · have hf := x_t c_33 hf
        exact hfX8_readsOrder_J68 tx tl at_ r_1 on_ tw th nu _ _ _ hf hP hD hS (lv_sub hl [0] rfl)
      · have hf := x_f c_33 hf
        refine lv_aload_n hx hb dX8_readsOrder_39 rfl (lv_at hl 0 rfl) ?_
        refine x_get hx hb (C := RX8) (T := TX8) (N := 16) (ci := 8) hts iX8 hown hK hP 0 rfl rfl 11 (by decide) wd1 rfl (.int r_1) rfl dX8_readsOrder_40 ?_
        refine lv_bipush (v := 98) hx hb dX8_readsOrder_43 (by decide) ?_
        refine lv_icmp_eq (tgt := 68) hx hb dX8_readsOrder_45 (by decide) (fun c_34 => ?_) (fun c_34 => ?_)
        · have hf := x_t c_34 hf
          exact hfX8_readsOrder_J68 tx tl at_ r_1 on_ tw th nu _ _ _ hf hP hD hS (lv_sub hl [0] rfl)
        · have hf := x_f c_34 hf
          refine lv_aload_n hx hb dX8_readsOrder_48 rfl (lv_at hl 0 rfl) ?_
          refine x_get hx hb (C := RX8) (T := TX8) (N := 16) (ci := 8) hts iX8 hown hK hP 0 rfl rfl 11 (by decide) wd1 rfl (.int r_1) rfl dX8_readsOrder_49 ?_
          refine lv_bipush (v := 115) hx hb dX8_readsOrder_52 (by decide) ?_
          refine lv_icmp_eq (tgt := 68) hx hb dX8_readsOrder_54 (by decide) (fun c_35 => ?_) (fun c_35 => ?_)
          · have hf := x_t c_35 hf
            exact hfX8_readsOrder_J68 tx tl at_ r_1 on_ tw th nu _ _ _ hf hP hD hS (lv_sub hl [0] rfl)
          · have hf := x_f c_35 hf
            refine lv_aload_n hx hb dX8_readsOrder_57 rfl (lv_at hl 0 rfl) ?_
            refine x_get hx hb (C := RX8) (T := TX8) (N := 16) (ci := 8) hts iX8 hown hK hP 0 rfl rfl 11 (by decide) wd1 rfl (.int r_1) rfl dX8_readsOrder_58 ?_
            refine lv_bipush (v := 100) hx hb dX8_readsOrder_61 (by decide) ?_
            refine lv_icmp_eq (tgt := 68) hx hb dX8_readsOrder_63 (by decide) (fun c_36 => ?_) (fun c_36 => ?_)
            · have hf := x_t c_36 hf
              exact hfX8_readsOrder_J68 tx tl at_ r_1 on_ tw th nu _ _ _ hf hP hD hS (lv_sub hl [0] rfl)
            · have hf := x_f c_36 hf
              refine lv_iconst (v := 0) hx hb dX8_readsOrder_66 (by decide) ?_
              have hf := Option.some.inj hf
              cases hf
              exact x_zret hx hb hr hlocks hK hP hD hS rfl dX8_readsOrder_67
theorem kdX8_findError : yX8_findError.cls = RX8 ∧ yX8_findError.cls ≠ "java/lang/invoke/MethodHandle" ∧ yX8_findError.cls ≠ "java/lang/invoke/VarHandle" ∧ (parseMethodDescriptor yX8_findError.desc).map (fun d => d.parameters.length) = some 0 := by decide +kernel
def rmX8_findError : Room := { frames := 3, cells := 0, slots := 0, locals := 64 }
set_option maxHeartbeats 4000000 in
set_option maxRecDepth 100000 in
theorem mX8_findError (l : Launch) (D : va_G) (cy : Nat → ClassId) (a0 a1 a2 a3 a4 a5 a6 : Nat) (st : Nat → Int32) (gr : Nat → Int64) (hi : Nat → Int32) (gh : Nat → Int64) (rc : Int32) (tx : Nat → Int32) (tl : Int32) (rk : Nat → Int32) (tb : Int32) (tk : Int64) (at_ : Int32) (ltr : Int32) (on_ : Int32) (tw : Int32) (th : Int32) (nu : Int32)  (r : Int32) (at_' : Int32) (ltr' : Int32) (on_' : Int32) (tw' : Int32) (th' : Int32) (nu' : Int32) (hf : fX8_findError tx tl at_ ltr on_ tw th nu = some (r, at_', ltr', on_', tw', th', nu')) : xMi l D cy yX8_findError aX8_findError rmX8_findError ([.ref a0] : List Value) (wX8 cy a0 a1 a2 a3 a4 a5 a6 st gr hi gh rc tx tl rk tb tk at_ ltr on_ tw th nu) (wX8 cy a0 a1 a2 a3 a4 a5 a6 st gr hi gh rc tx tl rk tb tk at_' ltr' on_' tw' th' nu') r := by
  intro hz
  refine x_start (Qc := xQi D cy _ r) (cc := cX8_findError) (maxL := 1) (ret := (some .int)) (by decide) rfl (Nat.le_of_ble_eq_true rfl) (lv := [(0, .ref a0)]) rfl ?_
  intro p e s m below meth c ls A hx hb hr hml hown hts hlocks hK hP hD hS hA hN hl
  have hown : s.vm.findClass RX8 = some m.cls := hown
  have hbg : ∀ w ∈ wsL_law, w ∈ aX8_findError := fun w h => List.mem_cons_of_mem _ h
  have wd0 : (Cond.fieldLink RX8 210 "ClientMoneyBookModel" "at" "I").before ([.ref a0] : List Value).toArray s = true := hts _ (List.mem_cons_of_mem _ wm_39_11)
  have wd1 : (Cond.fieldLink RX8 207 "ClientMoneyBookModel" "textLength" "I").before ([.ref a0] : List Value).toArray s = true := hts _ (List.mem_cons_of_mem _ wm_34_6)
  have iX8 : ∀ w ∈ u_ws RX8 TX8 16, w ∈ aX8_findError := fun w h => List.mem_cons_of_mem _ (inlX8 w h)
  unfold fX8_findError at hf
  refine lv_aload_n hx hb dX8_findError_0 rfl (lv_at hl 0 rfl) ?_
  refine lv_iconst (v := 0) hx hb dX8_findError_1 (by decide) ?_
  refine x_put hx hb (C := RX8) (T := TX8) (N := 16) (ci := 8) hts iX8 tyX8 tyX8_ok nmX8 hown hK hP hD hS 0 rfl rfl 10 (by decide) wd0 rfl rfl (ty := .int) rfl rfl rfl (Nat.le_of_ble_eq_true rfl) (w' := wX8 cy a0 a1 a2 a3 a4 a5 a6 st gr hi gh rc tx tl rk tb tk 0 ltr on_ tw th nu) rfl dX8_findError_2 (fun H locs hP hD hS => ?_)
  have hL_5 : ∀ (n : Nat) (at__21 : Int32) (ltr_22 : Int32) (on__23 : Int32) (tw_24 : Int32) (th_25 : Int32) (nu_26 : Int32) (o : (Int32 × Int32 × Int32 × Int32 × Int32 × Int32 × Int32) ⊕ (Int32 × Int32 × Int32 × Int32 × Int32 × Int32)) (H : Heap) (locs : List Loc) (ls : Array Slot), fX8_findError_L5 tx tl n at__21 ltr_22 on__23 tw_24 th_25 nu_26 = some o → va_P D vwCl (wX8 cy a0 a1 a2 a3 a4 a5 a6 st gr hi gh rc tx tl rk tb tk at__21 ltr_22 on__23 tw_24 th_25 nu_26) H → va_D A (wX8 cy a0 a1 a2 a3 a4 a5 a6 st gr hi gh rc tx tl rk tb tk at__21 ltr_22 on__23 tw_24 th_25 nu_26) → va_S A s.heap H locs → lv_has ls 1 [(0, .ref a0)] → (∀ r', o = .inl r' → r' = (r, at_', ltr', on_', tw', th', nu')) → ((∀ (at__27 : Int32) (ltr_28 : Int32) (on__29 : Int32) (tw_30 : Int32) (th_31 : Int32) (nu_32 : Int32) , o = (.inr (at__27, ltr_28, on__29, tw_30, th_31, nu_32)) → ∀ (H : Heap) (locs : List Loc) (ls : Array Slot), va_P D vwCl (wX8 cy a0 a1 a2 a3 a4 a5 a6 st gr hi gh rc tx tl rk tb tk at__27 ltr_28 on__29 tw_30 th_31 nu_32) H → va_D A (wX8 cy a0 a1 a2 a3 a4 a5 a6 st gr hi gh rc tx tl rk tb tk at__27 ltr_28 on__29 tw_30 th_31 nu_32) → va_S A s.heap H locs → lv_has ls 1 [(0, .ref a0)] → W p l e rmX8_findError s m ([.ref a0] : List Value).toArray below meth c H locs 0 0 (MQ below (xQi D cy (wX8 cy a0 a1 a2 a3 a4 a5 a6 st gr hi gh rc tx tl rk tb tk at_' ltr' on_' tw' th' nu') r A) ([.ref a0] : List Value).toArray s 0 0 A) (F0 m 40 ls []))) → W p l e rmX8_findError s m ([.ref a0] : List Value).toArray below meth c H locs 0 0 (MQ below (xQi D cy (wX8 cy a0 a1 a2 a3 a4 a5 a6 st gr hi gh rc tx tl rk tb tk at_' ltr' on_' tw' th' nu') r A) ([.ref a0] : List Value).toArray s 0 0 A) (F0 m 5 ls []) := by
    intro n
    induction n with
    | zero =>
      intro at__21 ltr_22 on__23 tw_24 th_25 nu_26 o_5 H locs ls hf
      rw [fX8_findError_L5] at hf
      cases hf
    | succ n ih =>
      intro at__21 ltr_22 on__23 tw_24 th_25 nu_26 o_5 H locs ls hf hP hD hS hl hr_5 kx_5
      rw [fX8_findError_L5] at hf
      refine lv_aload_n hx hb dX8_findError_5 rfl (lv_at hl 0 rfl) ?_
      obtain ⟨r_33, at__34, ltr_35, on__36, tw_37, th_38, nu_39, h_40, hf⟩ := bd7_el hf
      refine x_callVi (As := []) (rest := []) ⟨hx, hb, hml, hown, hts⟩ (mX8_readsOrder l D cy a0 a1 a2 a3 a4 a5 a6 st gr hi gh rc tx tl rk tb tk at__21 ltr_22 on__23 tw_24 th_25 nu_26  r_33 at__34 ltr_35 on__36 tw_37 th_38 nu_39 h_40) (cwV 0 hts (gcV_X8_readsOrder hbg wm_39_12) rfl rfl rfl kdX8_readsOrder ⟨Nat.le_of_ble_eq_true rfl, Nat.le_of_ble_eq_true rfl⟩) (w1 := []) (w2 := []) (w' := wX8 cy a0 a1 a2 a3 a4 a5 a6 st gr hi gh rc tx tl rk tb tk at__34 ltr_35 on__36 tw_37 th_38 nu_39) (List.append_nil _) (List.append_nil _) hP hK hD hN hS hA (q0 := 0) rfl rfl rfl rfl hl rfl (Nat.le_of_ble_eq_true rfl) dX8_findError_6 ⟨Nat.zero_le _, Nat.zero_le _⟩ (fun H locs hP hD hS => ?_)
      refine lv_if_ne (tgt := 17) hx hb dX8_findError_9 (by decide) (fun c_41 => ?_) (fun c_41 => ?_)
      · have hf := x_f c_41 hf
        refine lv_aload_n hx hb dX8_findError_17 rfl (lv_at hl 0 rfl) ?_
        refine x_get hx hb (C := RX8) (T := TX8) (N := 16) (ci := 8) hts iX8 hown hK hP 0 rfl rfl 10 (by decide) wd0 rfl (.int at__34) rfl dX8_findError_18 ?_
        refine lv_aload_n hx hb dX8_findError_21 rfl (lv_at hl 0 rfl) ?_
        refine x_get hx hb (C := RX8) (T := TX8) (N := 16) (ci := 8) hts iX8 hown hK hP 0 rfl rfl 6 (by decide) wd1 rfl (.int tl) rfl dX8_findError_22 ?_
        refine lv_icmp_ne (tgt := 31) hx hb dX8_findError_25 (by decide) (fun c_42 => ?_) (fun c_42 => ?_)
        · have hf := x_f c_42 hf
          refine lv_aload_n hx hb dX8_findError_31 rfl (lv_at hl 0 rfl) ?_
          refine lv_bipush (v := 59) hx hb dX8_findError_32 (by decide) ?_
          obtain ⟨r_43, at__44, h_45, hf⟩ := bd2_el hf
          refine x_callVi (As := [.int 59]) (rest := []) ⟨hx, hb, hml, hown, hts⟩ (mX8_isNext l D cy a0 a1 a2 a3 a4 a5 a6 st gr hi gh rc tx tl rk tb tk at__34 ltr_35 on__36 tw_37 th_38 nu_39 59 r_43 at__44 h_45) (cwV 1 hts (gcV_X8_isNext hbg wm_40_5) rfl rfl rfl kdX8_isNext ⟨Nat.le_of_ble_eq_true rfl, Nat.le_of_ble_eq_true rfl⟩) (w1 := []) (w2 := []) (w' := wX8 cy a0 a1 a2 a3 a4 a5 a6 st gr hi gh rc tx tl rk tb tk at__44 ltr_35 on__36 tw_37 th_38 nu_39) (List.append_nil _) (List.append_nil _) hP hK hD hN hS hA (q0 := 0) rfl rfl rfl rfl hl rfl (Nat.le_of_ble_eq_true rfl) dX8_findError_34 ⟨Nat.zero_le _, Nat.zero_le _⟩ (fun H locs hP hD hS => ?_)
          refine lv_if_ne (tgt := 5) hx hb dX8_findError_37 (by decide) (fun c_46 => ?_) (fun c_46 => ?_)
          · have hf := x_f c_46 hf
            exact ih at__44 ltr_35 on__36 tw_37 th_38 nu_39 _ _ _ _ hf hP hD hS (lv_sub hl [0] rfl) hr_5 kx_5
          · have hf := x_t c_46 hf
            exact kx_5 at__44 ltr_35 on__36 tw_37 th_38 nu_39 (Option.some.inj hf).symm _ _ _ hP hD hS (lv_sub hl [0] rfl)
        · have hf := x_t c_42 hf
          refine lv_bipush (v := (-6)) hx hb dX8_findError_28 (by decide) ?_
          have hf := Option.some.inj hf
          have hf := (hr_5 _ hf.symm)
          cases hf
          exact x_iret hx hb hr hlocks hK hP hD hS dX8_findError_30
      · have hf := x_t c_41 hf
        refine lv_aload_n hx hb dX8_findError_12 rfl (lv_at hl 0 rfl) ?_
        refine x_get hx hb (C := RX8) (T := TX8) (N := 16) (ci := 8) hts iX8 hown hK hP 0 rfl rfl 10 (by decide) wd0 rfl (.int at__34) rfl dX8_findError_13 ?_
        have hf := Option.some.inj hf
        have hf := (hr_5 _ hf.symm)
        cases hf
        exact x_iret hx hb hr hlocks hK hP hD hS dX8_findError_16
  obtain ⟨o_5, h1_5, hr_5, hf⟩ := bs6_el hf
  refine hL_5 2147483648 0 ltr on_ tw th nu o_5 _ _ _ h1_5 hP hD hS (lv_sub hl [0] rfl) hr_5 (fun at__15 ltr_16 on__17 tw_18 th_19 nu_20 ho H locs ls hP hD hS hl => ?_)
  have hf := hf at__15 ltr_16 on__17 tw_18 th_19 nu_20 ho
  refine lv_aload_n hx hb dX8_findError_40 rfl (lv_at hl 0 rfl) ?_
  refine x_get hx hb (C := RX8) (T := TX8) (N := 16) (ci := 8) hts iX8 hown hK hP 0 rfl rfl 10 (by decide) wd0 rfl (.int at__15) rfl dX8_findError_41 ?_
  have hf := Option.some.inj hf
  cases hf
  exact x_iret hx hb hr hlocks hK hP hD hS dX8_findError_44
theorem kdX8_syntaxError : yX8_syntaxError.cls = RX8 ∧ yX8_syntaxError.cls ≠ "java/lang/invoke/MethodHandle" ∧ yX8_syntaxError.cls ≠ "java/lang/invoke/VarHandle" ∧ (parseMethodDescriptor yX8_syntaxError.desc).map (fun d => d.parameters.length) = some 0 := by decide +kernel
def rmX8_syntaxError : Room := { frames := 4, cells := 0, slots := 0, locals := 84 }
set_option maxHeartbeats 4000000 in
set_option maxRecDepth 100000 in
theorem mX8_syntaxError (l : Launch) (D : va_G) (cy : Nat → ClassId) (a0 a1 a2 a3 a4 a5 a6 : Nat) (st : Nat → Int32) (gr : Nat → Int64) (hi : Nat → Int32) (gh : Nat → Int64) (rc : Int32) (tx : Nat → Int32) (tl : Int32) (rk : Nat → Int32) (tb : Int32) (tk : Int64) (at_ : Int32) (ltr : Int32) (on_ : Int32) (tw : Int32) (th : Int32) (nu : Int32)  (r : Int32) (at_' : Int32) (ltr' : Int32) (on_' : Int32) (tw' : Int32) (th' : Int32) (nu' : Int32) (hf : fX8_syntaxError tx tl at_ ltr on_ tw th nu = some (r, at_', ltr', on_', tw', th', nu')) : xMi l D cy yX8_syntaxError aX8_syntaxError rmX8_syntaxError ([.ref a0] : List Value) (wX8 cy a0 a1 a2 a3 a4 a5 a6 st gr hi gh rc tx tl rk tb tk at_ ltr on_ tw th nu) (wX8 cy a0 a1 a2 a3 a4 a5 a6 st gr hi gh rc tx tl rk tb tk at_' ltr' on_' tw' th' nu') r := by
  intro hz
  refine x_start (Qc := xQi D cy _ r) (cc := cX8_syntaxError) (maxL := 1) (ret := (some .int)) (by decide) rfl (Nat.le_of_ble_eq_true rfl) (lv := [(0, .ref a0)]) rfl ?_
  intro p e s m below meth c ls A hx hb hr hml hown hts hlocks hK hP hD hS hA hN hl
  have hown : s.vm.findClass RX8 = some m.cls := hown
  have hbg : ∀ w ∈ wsL_law, w ∈ aX8_syntaxError := fun w h => List.mem_cons_of_mem _ h
  unfold fX8_syntaxError at hf
  refine lv_aload_n hx hb dX8_syntaxError_0 rfl (lv_at hl 0 rfl) ?_
  obtain ⟨r_1, at__2, ltr_3, on__4, tw_5, th_6, nu_7, h_8, hf⟩ := bd7_el hf
  refine x_callVi (As := []) (rest := []) ⟨hx, hb, hml, hown, hts⟩ (mX8_findError l D cy a0 a1 a2 a3 a4 a5 a6 st gr hi gh rc tx tl rk tb tk at_ ltr on_ tw th nu  r_1 at__2 ltr_3 on__4 tw_5 th_6 nu_7 h_8) (cwV 0 hts (gcV_X8_findError hbg wm_39_7) rfl rfl rfl kdX8_findError ⟨Nat.le_of_ble_eq_true rfl, Nat.le_of_ble_eq_true rfl⟩) (w1 := []) (w2 := []) (w' := wX8 cy a0 a1 a2 a3 a4 a5 a6 st gr hi gh rc tx tl rk tb tk at__2 ltr_3 on__4 tw_5 th_6 nu_7) (List.append_nil _) (List.append_nil _) hP hK hD hN hS hA (q0 := 0) rfl rfl rfl rfl hl rfl (Nat.le_of_ble_eq_true rfl) dX8_syntaxError_1 ⟨Nat.zero_le _, Nat.zero_le _⟩ (fun H locs hP hD hS => ?_)
  have hf := Option.some.inj hf
  cases hf
  exact x_iret hx hb hr hlocks hK hP hD hS dX8_syntaxError_4
theorem kdX8_whyNotDone : yX8_whyNotDone.cls = RX8 ∧ yX8_whyNotDone.cls ≠ "java/lang/invoke/MethodHandle" ∧ yX8_whyNotDone.cls ≠ "java/lang/invoke/VarHandle" ∧ (parseMethodDescriptor yX8_whyNotDone.desc).map (fun d => d.parameters.length) = some 0 := by decide +kernel
def rmX8_whyNotDone : Room := { frames := 5, cells := 0, slots := 0, locals := 113 }
set_option maxHeartbeats 4000000 in
set_option maxRecDepth 100000 in
theorem mX8_whyNotDone (l : Launch) (D : va_G) (cy : Nat → ClassId) (a0 a1 a2 a3 a4 a5 a6 : Nat) (st : Nat → Int32) (gr : Nat → Int64) (hi : Nat → Int32) (gh : Nat → Int64) (rc : Int32) (tx : Nat → Int32) (tl : Int32) (rk : Nat → Int32) (tb : Int32) (tk : Int64) (at_ : Int32) (ltr : Int32) (on_ : Int32) (tw : Int32) (th : Int32) (nu : Int32)  (r : Int32) (hf : fX8_whyNotDone st ltr on_ tw th = some r) : xMi l D cy yX8_whyNotDone aX8_whyNotDone rmX8_whyNotDone ([.ref a0] : List Value) (wX8 cy a0 a1 a2 a3 a4 a5 a6 st gr hi gh rc tx tl rk tb tk at_ ltr on_ tw th nu) (wX8 cy a0 a1 a2 a3 a4 a5 a6 st gr hi gh rc tx tl rk tb tk at_ ltr on_ tw th nu) r := by
  intro hz
  refine x_start (Qc := xQi D cy _ r) (cc := cX8_whyNotDone) (maxL := 1) (ret := (some .int)) (by decide) rfl (Nat.le_of_ble_eq_true rfl) (lv := [(0, .ref a0)]) rfl ?_
  intro p e s m below meth c ls A hx hb hr hml hown hts hlocks hK hP hD hS hA hN hl
  have hown : s.vm.findClass RX8 = some m.cls := hown
  have hbg : ∀ w ∈ wsL_law, w ∈ aX8_whyNotDone := fun w h => List.mem_cons_of_mem _ h
  have wd0 : (Cond.fieldLink RX8 219 "ClientMoneyBookModel" "letter" "I").before ([.ref a0] : List Value).toArray s = true := hts _ (List.mem_cons_of_mem _ wm_39_16)
  have wd1 : (Cond.fieldLink RX8 226 "ClientMoneyBookModel" "one" "I").before ([.ref a0] : List Value).toArray s = true := hts _ (List.mem_cons_of_mem _ wm_39_18)
  have wd2 : (Cond.fieldLink RX8 235 "ClientMoneyBookModel" "three" "I").before ([.ref a0] : List Value).toArray s = true := hts _ (List.mem_cons_of_mem _ wm_39_20)
  have wd3 : (Cond.fieldLink RX8 232 "ClientMoneyBookModel" "two" "I").before ([.ref a0] : List Value).toArray s = true := hts _ (List.mem_cons_of_mem _ wm_39_19)
  have iX8 : ∀ w ∈ u_ws RX8 TX8 16, w ∈ aX8_whyNotDone := fun w h => List.mem_cons_of_mem _ (inlX8 w h)
  unfold fX8_whyNotDone at hf
  refine lv_aload_n hx hb dX8_whyNotDone_0 rfl (lv_at hl 0 rfl) ?_
  refine x_get hx hb (C := RX8) (T := TX8) (N := 16) (ci := 8) hts iX8 hown hK hP 0 rfl rfl 11 (by decide) wd0 rfl (.int ltr) rfl dX8_whyNotDone_1 ?_
  by_cases s_1 : ltr = 98
  · have hf := x_t s_1 hf
    have s_1i : ltr.toInt = 98 := by rw [s_1]; rfl
    refine lv_lookup (tgt := 99) (off := 95) hx hb dX8_whyNotDone_4 (by decide) (by rw [s_1i]; rfl) (by decide) ?_
    refine lv_aload_n hx hb dX8_whyNotDone_99 rfl (lv_at hl 0 rfl) ?_
    refine lv_aload_n hx hb dX8_whyNotDone_100 rfl (lv_at hl 0 rfl) ?_
    refine x_get hx hb (C := RX8) (T := TX8) (N := 16) (ci := 8) hts iX8 hown hK hP 0 rfl rfl 12 (by decide) wd1 rfl (.int on_) rfl dX8_whyNotDone_101 ?_
    refine lv_aload_n hx hb dX8_whyNotDone_104 rfl (lv_at hl 0 rfl) ?_
    refine x_get hx hb (C := RX8) (T := TX8) (N := 16) (ci := 8) hts iX8 hown hK hP 0 rfl rfl 14 (by decide) wd2 rfl (.int th) rfl dX8_whyNotDone_105 ?_
    obtain ⟨r_2, h_3, hf⟩ := bd1_el hf
    refine x_callVi (As := [.int on_, .int th]) (rest := []) ⟨hx, hb, hml, hown, hts⟩ (mX8_whyNotBilled l D cy a0 a1 a2 a3 a4 a5 a6 st gr hi gh rc tx tl rk tb tk at_ ltr on_ tw th nu on_ th r_2 h_3) (cwV 2 hts (gcV_X8_whyNotBilled hbg wm_19_18) rfl rfl rfl kdX8_whyNotBilled ⟨Nat.le_of_ble_eq_true rfl, Nat.le_of_ble_eq_true rfl⟩) (w1 := []) (w2 := []) (w' := wX8 cy a0 a1 a2 a3 a4 a5 a6 st gr hi gh rc tx tl rk tb tk at_ ltr on_ tw th nu) (List.append_nil _) (List.append_nil _) hP hK hD hN hS hA (q0 := 0) rfl rfl rfl rfl hl rfl (Nat.le_of_ble_eq_true rfl) dX8_whyNotDone_108 ⟨Nat.zero_le _, Nat.zero_le _⟩ (fun H locs hP hD hS => ?_)
    have hf := Option.some.inj hf
    cases hf
    exact x_iret hx hb hr hlocks hK hP hD hS dX8_whyNotDone_111
  · have hf := x_f s_1 hf
    by_cases s_4 : ltr = 112
    · have hf := x_t s_4 hf
      have s_4i : ltr.toInt = 112 := by rw [s_4]; rfl
      refine lv_lookup (tgt := 69) (off := 65) hx hb dX8_whyNotDone_4 (by decide) (by rw [s_4i]; rfl) (by decide) ?_
      refine lv_aload_n hx hb dX8_whyNotDone_69 rfl (lv_at hl 0 rfl) ?_
      refine lv_aload_n hx hb dX8_whyNotDone_70 rfl (lv_at hl 0 rfl) ?_
      refine x_get hx hb (C := RX8) (T := TX8) (N := 16) (ci := 8) hts iX8 hown hK hP 0 rfl rfl 12 (by decide) wd1 rfl (.int on_) rfl dX8_whyNotDone_71 ?_
      refine lv_aload_n hx hb dX8_whyNotDone_74 rfl (lv_at hl 0 rfl) ?_
      refine x_get hx hb (C := RX8) (T := TX8) (N := 16) (ci := 8) hts iX8 hown hK hP 0 rfl rfl 14 (by decide) wd2 rfl (.int th) rfl dX8_whyNotDone_75 ?_
      obtain ⟨r_5, h_6, hf⟩ := bd1_el hf
      refine x_callVi (As := [.int on_, .int th]) (rest := []) ⟨hx, hb, hml, hown, hts⟩ (mX8_whyNotPaid l D cy a0 a1 a2 a3 a4 a5 a6 st gr hi gh rc tx tl rk tb tk at_ ltr on_ tw th nu on_ th r_5 h_6) (cwV 2 hts (gcV_X8_whyNotPaid hbg wm_15_4) rfl rfl rfl kdX8_whyNotPaid ⟨Nat.le_of_ble_eq_true rfl, Nat.le_of_ble_eq_true rfl⟩) (w1 := []) (w2 := []) (w' := wX8 cy a0 a1 a2 a3 a4 a5 a6 st gr hi gh rc tx tl rk tb tk at_ ltr on_ tw th nu) (List.append_nil _) (List.append_nil _) hP hK hD hN hS hA (q0 := 0) rfl rfl rfl rfl hl rfl (Nat.le_of_ble_eq_true rfl) dX8_whyNotDone_78 ⟨Nat.zero_le _, Nat.zero_le _⟩ (fun H locs hP hD hS => ?_)
      have hf := Option.some.inj hf
      cases hf
      exact x_iret hx hb hr hlocks hK hP hD hS dX8_whyNotDone_81
    · have hf := x_f s_4 hf
      by_cases s_7 : ltr = 114
      · have hf := x_t s_7 hf
        have s_7i : ltr.toInt = 114 := by rw [s_7]; rfl
        refine lv_lookup (tgt := 56) (off := 52) hx hb dX8_whyNotDone_4 (by decide) (by rw [s_7i]; rfl) (by decide) ?_
        refine lv_aload_n hx hb dX8_whyNotDone_56 rfl (lv_at hl 0 rfl) ?_
        refine lv_aload_n hx hb dX8_whyNotDone_57 rfl (lv_at hl 0 rfl) ?_
        refine x_get hx hb (C := RX8) (T := TX8) (N := 16) (ci := 8) hts iX8 hown hK hP 0 rfl rfl 12 (by decide) wd1 rfl (.int on_) rfl dX8_whyNotDone_58 ?_
        refine lv_aload_n hx hb dX8_whyNotDone_61 rfl (lv_at hl 0 rfl) ?_
        refine x_get hx hb (C := RX8) (T := TX8) (N := 16) (ci := 8) hts iX8 hown hK hP 0 rfl rfl 14 (by decide) wd2 rfl (.int th) rfl dX8_whyNotDone_62 ?_
        obtain ⟨r_8, h_9, hf⟩ := bd1_el hf
        refine x_callVi (As := [.int on_, .int th]) (rest := []) ⟨hx, hb, hml, hown, hts⟩ (mX8_whyNotReceived l D cy a0 a1 a2 a3 a4 a5 a6 st gr hi gh rc tx tl rk tb tk at_ ltr on_ tw th nu on_ th r_8 h_9) (cwV 2 hts (gcV_X8_whyNotReceived hbg wm_13_1) rfl rfl rfl kdX8_whyNotReceived ⟨Nat.le_of_ble_eq_true rfl, Nat.le_of_ble_eq_true rfl⟩) (w1 := []) (w2 := []) (w' := wX8 cy a0 a1 a2 a3 a4 a5 a6 st gr hi gh rc tx tl rk tb tk at_ ltr on_ tw th nu) (List.append_nil _) (List.append_nil _) hP hK hD hN hS hA (q0 := 0) rfl rfl rfl rfl hl rfl (Nat.le_of_ble_eq_true rfl) dX8_whyNotDone_65 ⟨Nat.zero_le _, Nat.zero_le _⟩ (fun H locs hP hD hS => ?_)
        have hf := Option.some.inj hf
        cases hf
        exact x_iret hx hb hr hlocks hK hP hD hS dX8_whyNotDone_68
      · have hf := x_f s_7 hf
        by_cases s_10 : ltr = 115
        · have hf := x_t s_10 hf
          have s_10i : ltr.toInt = 115 := by rw [s_10]; rfl
          refine lv_lookup (tgt := 112) (off := 108) hx hb dX8_whyNotDone_4 (by decide) (by rw [s_10i]; rfl) (by decide) ?_
          refine lv_aload_n hx hb dX8_whyNotDone_112 rfl (lv_at hl 0 rfl) ?_
          refine lv_aload_n hx hb dX8_whyNotDone_113 rfl (lv_at hl 0 rfl) ?_
          refine x_get hx hb (C := RX8) (T := TX8) (N := 16) (ci := 8) hts iX8 hown hK hP 0 rfl rfl 12 (by decide) wd1 rfl (.int on_) rfl dX8_whyNotDone_114 ?_
          obtain ⟨r_11, h_12, hf⟩ := bd1_el hf
          refine x_callVi (As := [.int on_]) (rest := []) ⟨hx, hb, hml, hown, hts⟩ (mX8_whyNotSettled l D cy a0 a1 a2 a3 a4 a5 a6 st gr hi gh rc tx tl rk tb tk at_ ltr on_ tw th nu on_ r_11 h_12) (cwV 1 hts (gcV_X8_whyNotSettled hbg wm_20_16) rfl rfl rfl kdX8_whyNotSettled ⟨Nat.le_of_ble_eq_true rfl, Nat.le_of_ble_eq_true rfl⟩) (w1 := []) (w2 := []) (w' := wX8 cy a0 a1 a2 a3 a4 a5 a6 st gr hi gh rc tx tl rk tb tk at_ ltr on_ tw th nu) (List.append_nil _) (List.append_nil _) hP hK hD hN hS hA (q0 := 0) rfl rfl rfl rfl hl rfl (Nat.le_of_ble_eq_true rfl) dX8_whyNotDone_117 ⟨Nat.zero_le _, Nat.zero_le _⟩ (fun H locs hP hD hS => ?_)
          have hf := Option.some.inj hf
          cases hf
          exact x_iret hx hb hr hlocks hK hP hD hS dX8_whyNotDone_120
        · have hf := x_f s_10 hf
          by_cases s_13 : ltr = 116
          · have hf := x_t s_13 hf
            have s_13i : ltr.toInt = 116 := by rw [s_13]; rfl
            refine lv_lookup (tgt := 82) (off := 78) hx hb dX8_whyNotDone_4 (by decide) (by rw [s_13i]; rfl) (by decide) ?_
            refine lv_aload_n hx hb dX8_whyNotDone_82 rfl (lv_at hl 0 rfl) ?_
            refine lv_aload_n hx hb dX8_whyNotDone_83 rfl (lv_at hl 0 rfl) ?_
            refine x_get hx hb (C := RX8) (T := TX8) (N := 16) (ci := 8) hts iX8 hown hK hP 0 rfl rfl 12 (by decide) wd1 rfl (.int on_) rfl dX8_whyNotDone_84 ?_
            refine lv_aload_n hx hb dX8_whyNotDone_87 rfl (lv_at hl 0 rfl) ?_
            refine x_get hx hb (C := RX8) (T := TX8) (N := 16) (ci := 8) hts iX8 hown hK hP 0 rfl rfl 13 (by decide) wd3 rfl (.int tw) rfl dX8_whyNotDone_88 ?_
            refine lv_aload_n hx hb dX8_whyNotDone_91 rfl (lv_at hl 0 rfl) ?_
            refine x_get hx hb (C := RX8) (T := TX8) (N := 16) (ci := 8) hts iX8 hown hK hP 0 rfl rfl 14 (by decide) wd2 rfl (.int th) rfl dX8_whyNotDone_92 ?_
            obtain ⟨r_14, h_15, hf⟩ := bd1_el hf
            refine x_callVi (As := [.int on_, .int tw, .int th]) (rest := []) ⟨hx, hb, hml, hown, hts⟩ (mX8_whyNotMoved l D cy a0 a1 a2 a3 a4 a5 a6 st gr hi gh rc tx tl rk tb tk at_ ltr on_ tw th nu on_ tw th r_14 h_15) (cwV 3 hts (gcV_X8_whyNotMoved hbg wm_16_16) rfl rfl rfl kdX8_whyNotMoved ⟨Nat.le_of_ble_eq_true rfl, Nat.le_of_ble_eq_true rfl⟩) (w1 := []) (w2 := []) (w' := wX8 cy a0 a1 a2 a3 a4 a5 a6 st gr hi gh rc tx tl rk tb tk at_ ltr on_ tw th nu) (List.append_nil _) (List.append_nil _) hP hK hD hN hS hA (q0 := 0) rfl rfl rfl rfl hl rfl (Nat.le_of_ble_eq_true rfl) dX8_whyNotDone_95 ⟨Nat.zero_le _, Nat.zero_le _⟩ (fun H locs hP hD hS => ?_)
            have hf := Option.some.inj hf
            cases hf
            exact x_iret hx hb hr hlocks hK hP hD hS dX8_whyNotDone_98
          · have hf := x_f s_13 hf
            refine lv_lookup (tgt := 121) (off := 117) hx hb dX8_whyNotDone_4 (by decide) (x_lk98_112_114_115_116 s_1 s_4 s_7 s_10 s_13) (by decide) ?_
            refine lv_aload_n hx hb dX8_whyNotDone_121 rfl (lv_at hl 0 rfl) ?_
            refine lv_aload_n hx hb dX8_whyNotDone_122 rfl (lv_at hl 0 rfl) ?_
            refine x_get hx hb (C := RX8) (T := TX8) (N := 16) (ci := 8) hts iX8 hown hK hP 0 rfl rfl 12 (by decide) wd1 rfl (.int on_) rfl dX8_whyNotDone_123 ?_
            obtain ⟨r_16, h_17, hf⟩ := bd1_el hf
            refine x_callVi (As := [.int on_]) (rest := []) ⟨hx, hb, hml, hown, hts⟩ (mX8_whyNotPassed l D cy a0 a1 a2 a3 a4 a5 a6 st gr hi gh rc tx tl rk tb tk at_ ltr on_ tw th nu on_ r_16 h_17) (cwV 1 hts (gcV_X8_whyNotPassed hbg wm_23_5) rfl rfl rfl kdX8_whyNotPassed ⟨Nat.le_of_ble_eq_true rfl, Nat.le_of_ble_eq_true rfl⟩) (w1 := []) (w2 := []) (w' := wX8 cy a0 a1 a2 a3 a4 a5 a6 st gr hi gh rc tx tl rk tb tk at_ ltr on_ tw th nu) (List.append_nil _) (List.append_nil _) hP hK hD hN hS hA (q0 := 0) rfl rfl rfl rfl hl rfl (Nat.le_of_ble_eq_true rfl) dX8_whyNotDone_126 ⟨Nat.zero_le _, Nat.zero_le _⟩ (fun H locs hP hD hS => ?_)
            have hf := Option.some.inj hf
            cases hf
            exact x_iret hx hb hr hlocks hK hP hD hS dX8_whyNotDone_129
theorem kdX8_does : yX8_does.cls = RX8 ∧ yX8_does.cls ≠ "java/lang/invoke/MethodHandle" ∧ yX8_does.cls ≠ "java/lang/invoke/VarHandle" ∧ (parseMethodDescriptor yX8_does.desc).map (fun d => d.parameters.length) = some 0 := by decide +kernel
def rmX8_does : Room := { frames := 5, cells := 0, slots := 0, locals := 112 }
set_option maxHeartbeats 4000000 in
set_option maxRecDepth 100000 in
theorem mX8_does (l : Launch) (D : va_G) (cy : Nat → ClassId) (a0 a1 a2 a3 a4 a5 a6 : Nat) (st : Nat → Int32) (gr : Nat → Int64) (hi : Nat → Int32) (gh : Nat → Int64) (rc : Int32) (tx : Nat → Int32) (tl : Int32) (rk : Nat → Int32) (tb : Int32) (tk : Int64) (at_ : Int32) (ltr : Int32) (on_ : Int32) (tw : Int32) (th : Int32) (nu : Int32)  (st' : Nat → Int32) (gr' : Nat → Int64) (tb' : Int32) (tk' : Int64) (hf : fX8_does st gr tb tk ltr on_ tw th = some (st', gr', tb', tk')) : xMv l D cy yX8_does aX8_does rmX8_does ([.ref a0] : List Value) (wX8 cy a0 a1 a2 a3 a4 a5 a6 st gr hi gh rc tx tl rk tb tk at_ ltr on_ tw th nu) (wX8 cy a0 a1 a2 a3 a4 a5 a6 st' gr' hi gh rc tx tl rk tb' tk' at_ ltr on_ tw th nu) := by
  intro hz
  refine x_start (Qc := xQv D cy _) (cc := cX8_does) (maxL := 1) (ret := none) (by decide) rfl (Nat.le_of_ble_eq_true rfl) (lv := [(0, .ref a0)]) rfl ?_
  intro p e s m below meth c ls A hx hb hr hml hown hts hlocks hK hP hD hS hA hN hl
  have hown : s.vm.findClass RX8 = some m.cls := hown
  have hbg : ∀ w ∈ wsL_law, w ∈ aX8_does := fun w h => List.mem_cons_of_mem _ h
  have wd0 : (Cond.fieldLink RX8 219 "ClientMoneyBookModel" "letter" "I").before ([.ref a0] : List Value).toArray s = true := hts _ (List.mem_cons_of_mem _ wm_39_16)
  have wd1 : (Cond.fieldLink RX8 226 "ClientMoneyBookModel" "one" "I").before ([.ref a0] : List Value).toArray s = true := hts _ (List.mem_cons_of_mem _ wm_39_18)
  have wd2 : (Cond.fieldLink RX8 235 "ClientMoneyBookModel" "three" "I").before ([.ref a0] : List Value).toArray s = true := hts _ (List.mem_cons_of_mem _ wm_39_20)
  have wd3 : (Cond.fieldLink RX8 232 "ClientMoneyBookModel" "two" "I").before ([.ref a0] : List Value).toArray s = true := hts _ (List.mem_cons_of_mem _ wm_39_19)
  have iX8 : ∀ w ∈ u_ws RX8 TX8 16, w ∈ aX8_does := fun w h => List.mem_cons_of_mem _ (inlX8 w h)
  unfold fX8_does at hf
  refine lv_aload_n hx hb dX8_does_0 rfl (lv_at hl 0 rfl) ?_
  refine x_get hx hb (C := RX8) (T := TX8) (N := 16) (ci := 8) hts iX8 hown hK hP 0 rfl rfl 11 (by decide) wd0 rfl (.int ltr) rfl dX8_does_1 ?_
  by_cases s_1 : ltr = 98
  · have hf := x_t s_1 hf
    have s_1i : ltr.toInt = 98 := by rw [s_1]; rfl
    refine lv_lookup (tgt := 108) (off := 104) hx hb dX8_does_4 (by decide) (by rw [s_1i]; rfl) (by decide) ?_
    refine lv_aload_n hx hb dX8_does_108 rfl (lv_at hl 0 rfl) ?_
    refine lv_aload_n hx hb dX8_does_109 rfl (lv_at hl 0 rfl) ?_
    refine x_get hx hb (C := RX8) (T := TX8) (N := 16) (ci := 8) hts iX8 hown hK hP 0 rfl rfl 12 (by decide) wd1 rfl (.int on_) rfl dX8_does_110 ?_
    refine lv_aload_n hx hb dX8_does_113 rfl (lv_at hl 0 rfl) ?_
    refine x_get hx hb (C := RX8) (T := TX8) (N := 16) (ci := 8) hts iX8 hown hK hP 0 rfl rfl 14 (by decide) wd2 rfl (.int th) rfl dX8_does_114 ?_
    obtain ⟨r_2, st_3, h_4, hf⟩ := bd2_el hf
    refine x_callVi (As := [.int on_, .int th]) (rest := []) ⟨hx, hb, hml, hown, hts⟩ (mX8_bills l D cy a0 a1 a2 a3 a4 a5 a6 st gr hi gh rc tx tl rk tb tk at_ ltr on_ tw th nu on_ th r_2 st_3 h_4) (cwV 2 hts (gcV_X8_bills hbg wm_19_22) rfl rfl rfl kdX8_bills ⟨Nat.le_of_ble_eq_true rfl, Nat.le_of_ble_eq_true rfl⟩) (w1 := []) (w2 := []) (w' := wX8 cy a0 a1 a2 a3 a4 a5 a6 st_3 gr hi gh rc tx tl rk tb tk at_ ltr on_ tw th nu) (List.append_nil _) (List.append_nil _) hP hK hD hN hS hA (q0 := 0) rfl rfl rfl rfl hl rfl (Nat.le_of_ble_eq_true rfl) dX8_does_117 ⟨Nat.zero_le _, Nat.zero_le _⟩ (fun H locs hP hD hS => ?_)
    refine lv_pop hx hb dX8_does_120 rfl ?_
    refine lv_goto (tgt := 145) hx hb dX8_does_121 (by decide) ?_
    have hf := Option.some.inj hf
    cases hf
    exact x_vret hx hb hr hlocks hK hP hD hS dX8_does_145
  · have hf := x_f s_1 hf
    by_cases s_5 : ltr = 112
    · have hf := x_t s_5 hf
      have s_5i : ltr.toInt = 112 := by rw [s_5]; rfl
      refine lv_lookup (tgt := 72) (off := 68) hx hb dX8_does_4 (by decide) (by rw [s_5i]; rfl) (by decide) ?_
      refine lv_aload_n hx hb dX8_does_72 rfl (lv_at hl 0 rfl) ?_
      refine lv_aload_n hx hb dX8_does_73 rfl (lv_at hl 0 rfl) ?_
      refine x_get hx hb (C := RX8) (T := TX8) (N := 16) (ci := 8) hts iX8 hown hK hP 0 rfl rfl 12 (by decide) wd1 rfl (.int on_) rfl dX8_does_74 ?_
      refine lv_aload_n hx hb dX8_does_77 rfl (lv_at hl 0 rfl) ?_
      refine x_get hx hb (C := RX8) (T := TX8) (N := 16) (ci := 8) hts iX8 hown hK hP 0 rfl rfl 14 (by decide) wd2 rfl (.int th) rfl dX8_does_78 ?_
      obtain ⟨r_6, st_7, gr_8, h_9, hf⟩ := bd3_el hf
      refine x_callVi (As := [.int on_, .int th]) (rest := []) ⟨hx, hb, hml, hown, hts⟩ (mX8_pays l D cy a0 a1 a2 a3 a4 a5 a6 st gr hi gh rc tx tl rk tb tk at_ ltr on_ tw th nu on_ th r_6 st_7 gr_8 h_9) (cwV 2 hts (gcV_X8_pays hbg wm_16_0) rfl rfl rfl kdX8_pays ⟨Nat.le_of_ble_eq_true rfl, Nat.le_of_ble_eq_true rfl⟩) (w1 := []) (w2 := []) (w' := wX8 cy a0 a1 a2 a3 a4 a5 a6 st_7 gr_8 hi gh rc tx tl rk tb tk at_ ltr on_ tw th nu) (List.append_nil _) (List.append_nil _) hP hK hD hN hS hA (q0 := 0) rfl rfl rfl rfl hl rfl (Nat.le_of_ble_eq_true rfl) dX8_does_81 ⟨Nat.zero_le _, Nat.zero_le _⟩ (fun H locs hP hD hS => ?_)
      refine lv_pop hx hb dX8_does_84 rfl ?_
      refine lv_goto (tgt := 145) hx hb dX8_does_85 (by decide) ?_
      have hf := Option.some.inj hf
      cases hf
      exact x_vret hx hb hr hlocks hK hP hD hS dX8_does_145
    · have hf := x_f s_5 hf
      by_cases s_10 : ltr = 114
      · have hf := x_t s_10 hf
        have s_10i : ltr.toInt = 114 := by rw [s_10]; rfl
        refine lv_lookup (tgt := 56) (off := 52) hx hb dX8_does_4 (by decide) (by rw [s_10i]; rfl) (by decide) ?_
        refine lv_aload_n hx hb dX8_does_56 rfl (lv_at hl 0 rfl) ?_
        refine lv_aload_n hx hb dX8_does_57 rfl (lv_at hl 0 rfl) ?_
        refine x_get hx hb (C := RX8) (T := TX8) (N := 16) (ci := 8) hts iX8 hown hK hP 0 rfl rfl 12 (by decide) wd1 rfl (.int on_) rfl dX8_does_58 ?_
        refine lv_aload_n hx hb dX8_does_61 rfl (lv_at hl 0 rfl) ?_
        refine x_get hx hb (C := RX8) (T := TX8) (N := 16) (ci := 8) hts iX8 hown hK hP 0 rfl rfl 14 (by decide) wd2 rfl (.int th) rfl dX8_does_62 ?_
        obtain ⟨r_11, st_12, gr_13, h_14, hf⟩ := bd3_el hf
        refine x_callVi (As := [.int on_, .int th]) (rest := []) ⟨hx, hb, hml, hown, hts⟩ (mX8_receives l D cy a0 a1 a2 a3 a4 a5 a6 st gr hi gh rc tx tl rk tb tk at_ ltr on_ tw th nu on_ th r_11 st_12 gr_13 h_14) (cwV 2 hts (gcV_X8_receives hbg wm_13_13) rfl rfl rfl kdX8_receives ⟨Nat.le_of_ble_eq_true rfl, Nat.le_of_ble_eq_true rfl⟩) (w1 := []) (w2 := []) (w' := wX8 cy a0 a1 a2 a3 a4 a5 a6 st_12 gr_13 hi gh rc tx tl rk tb tk at_ ltr on_ tw th nu) (List.append_nil _) (List.append_nil _) hP hK hD hN hS hA (q0 := 0) rfl rfl rfl rfl hl rfl (Nat.le_of_ble_eq_true rfl) dX8_does_65 ⟨Nat.zero_le _, Nat.zero_le _⟩ (fun H locs hP hD hS => ?_)
        refine lv_pop hx hb dX8_does_68 rfl ?_
        refine lv_goto (tgt := 145) hx hb dX8_does_69 (by decide) ?_
        have hf := Option.some.inj hf
        cases hf
        exact x_vret hx hb hr hlocks hK hP hD hS dX8_does_145
      · have hf := x_f s_10 hf
        by_cases s_15 : ltr = 115
        · have hf := x_t s_15 hf
          have s_15i : ltr.toInt = 115 := by rw [s_15]; rfl
          refine lv_lookup (tgt := 124) (off := 120) hx hb dX8_does_4 (by decide) (by rw [s_15i]; rfl) (by decide) ?_
          refine lv_aload_n hx hb dX8_does_124 rfl (lv_at hl 0 rfl) ?_
          refine lv_aload_n hx hb dX8_does_125 rfl (lv_at hl 0 rfl) ?_
          refine x_get hx hb (C := RX8) (T := TX8) (N := 16) (ci := 8) hts iX8 hown hK hP 0 rfl rfl 12 (by decide) wd1 rfl (.int on_) rfl dX8_does_126 ?_
          obtain ⟨r_16, st_17, gr_18, h_19, hf⟩ := bd3_el hf
          refine x_callVi (As := [.int on_]) (rest := []) ⟨hx, hb, hml, hown, hts⟩ (mX8_settles l D cy a0 a1 a2 a3 a4 a5 a6 st gr hi gh rc tx tl rk tb tk at_ ltr on_ tw th nu on_ r_16 st_17 gr_18 h_19) (cwV 1 hts (gcV_X8_settles hbg wm_21_0) rfl rfl rfl kdX8_settles ⟨Nat.le_of_ble_eq_true rfl, Nat.le_of_ble_eq_true rfl⟩) (w1 := []) (w2 := []) (w' := wX8 cy a0 a1 a2 a3 a4 a5 a6 st_17 gr_18 hi gh rc tx tl rk tb tk at_ ltr on_ tw th nu) (List.append_nil _) (List.append_nil _) hP hK hD hN hS hA (q0 := 0) rfl rfl rfl rfl hl rfl (Nat.le_of_ble_eq_true rfl) dX8_does_129 ⟨Nat.zero_le _, Nat.zero_le _⟩ (fun H locs hP hD hS => ?_)
          refine lv_pop hx hb dX8_does_132 rfl ?_
          refine lv_goto (tgt := 145) hx hb dX8_does_133 (by decide) ?_
          have hf := Option.some.inj hf
          cases hf
          exact x_vret hx hb hr hlocks hK hP hD hS dX8_does_145
        · have hf := x_f s_15 hf
          by_cases s_20 : ltr = 116
          · have hf := x_t s_20 hf
            have s_20i : ltr.toInt = 116 := by rw [s_20]; rfl
            refine lv_lookup (tgt := 88) (off := 84) hx hb dX8_does_4 (by decide) (by rw [s_20i]; rfl) (by decide) ?_
            refine lv_aload_n hx hb dX8_does_88 rfl (lv_at hl 0 rfl) ?_
            refine lv_aload_n hx hb dX8_does_89 rfl (lv_at hl 0 rfl) ?_
            refine x_get hx hb (C := RX8) (T := TX8) (N := 16) (ci := 8) hts iX8 hown hK hP 0 rfl rfl 12 (by decide) wd1 rfl (.int on_) rfl dX8_does_90 ?_
            refine lv_aload_n hx hb dX8_does_93 rfl (lv_at hl 0 rfl) ?_
            refine x_get hx hb (C := RX8) (T := TX8) (N := 16) (ci := 8) hts iX8 hown hK hP 0 rfl rfl 13 (by decide) wd3 rfl (.int tw) rfl dX8_does_94 ?_
            refine lv_aload_n hx hb dX8_does_97 rfl (lv_at hl 0 rfl) ?_
            refine x_get hx hb (C := RX8) (T := TX8) (N := 16) (ci := 8) hts iX8 hown hK hP 0 rfl rfl 14 (by decide) wd2 rfl (.int th) rfl dX8_does_98 ?_
            obtain ⟨r_21, st_22, h_23, hf⟩ := bd2_el hf
            refine x_callVi (As := [.int on_, .int tw, .int th]) (rest := []) ⟨hx, hb, hml, hown, hts⟩ (mX8_transfers l D cy a0 a1 a2 a3 a4 a5 a6 st gr hi gh rc tx tl rk tb tk at_ ltr on_ tw th nu on_ tw th r_21 st_22 h_23) (cwV 3 hts (gcV_X8_transfers hbg wm_16_20) rfl rfl rfl kdX8_transfers ⟨Nat.le_of_ble_eq_true rfl, Nat.le_of_ble_eq_true rfl⟩) (w1 := []) (w2 := []) (w' := wX8 cy a0 a1 a2 a3 a4 a5 a6 st_22 gr hi gh rc tx tl rk tb tk at_ ltr on_ tw th nu) (List.append_nil _) (List.append_nil _) hP hK hD hN hS hA (q0 := 0) rfl rfl rfl rfl hl rfl (Nat.le_of_ble_eq_true rfl) dX8_does_101 ⟨Nat.zero_le _, Nat.zero_le _⟩ (fun H locs hP hD hS => ?_)
            refine lv_pop hx hb dX8_does_104 rfl ?_
            refine lv_goto (tgt := 145) hx hb dX8_does_105 (by decide) ?_
            have hf := Option.some.inj hf
            cases hf
            exact x_vret hx hb hr hlocks hK hP hD hS dX8_does_145
          · have hf := x_f s_20 hf
            refine lv_lookup (tgt := 136) (off := 132) hx hb dX8_does_4 (by decide) (x_lk98_112_114_115_116 s_1 s_5 s_10 s_15 s_20) (by decide) ?_
            refine lv_aload_n hx hb dX8_does_136 rfl (lv_at hl 0 rfl) ?_
            refine lv_aload_n hx hb dX8_does_137 rfl (lv_at hl 0 rfl) ?_
            refine x_get hx hb (C := RX8) (T := TX8) (N := 16) (ci := 8) hts iX8 hown hK hP 0 rfl rfl 12 (by decide) wd1 rfl (.int on_) rfl dX8_does_138 ?_
            obtain ⟨r_24, st_25, gr_26, tb_27, tk_28, h_29, hf⟩ := bd5_el hf
            refine x_callVl (As := [.int on_]) (rest := []) ⟨hx, hb, hml, hown, hts⟩ (mX8_passes l D cy a0 a1 a2 a3 a4 a5 a6 st gr hi gh rc tx tl rk tb tk at_ ltr on_ tw th nu on_ r_24 st_25 gr_26 tb_27 tk_28 h_29) (cwV 1 hts (gcV_X8_passes hbg wm_23_9) rfl rfl rfl kdX8_passes ⟨Nat.le_of_ble_eq_true rfl, Nat.le_of_ble_eq_true rfl⟩) (w1 := []) (w2 := []) (w' := wX8 cy a0 a1 a2 a3 a4 a5 a6 st_25 gr_26 hi gh rc tx tl rk tb_27 tk_28 at_ ltr on_ tw th nu) (List.append_nil _) (List.append_nil _) hP hK hD hN hS hA (q0 := 0) rfl rfl rfl rfl hl rfl (Nat.le_of_ble_eq_true rfl) dX8_does_141 ⟨Nat.zero_le _, Nat.zero_le _⟩ (fun H locs hP hD hS => ?_)
            refine lv_pop2_2 hx hb dX8_does_144 rfl ?_
            have hf := Option.some.inj hf
            cases hf
            exact x_vret hx hb hr hlocks hK hP hD hS dX8_does_145
theorem kdX8_carryOut : yX8_carryOut.cls = RX8 ∧ yX8_carryOut.cls ≠ "java/lang/invoke/MethodHandle" ∧ yX8_carryOut.cls ≠ "java/lang/invoke/VarHandle" ∧ (parseMethodDescriptor yX8_carryOut.desc).map (fun d => d.parameters.length) = some 0 := by decide +kernel
def rmX8_carryOut : Room := { frames := 6, cells := 0, slots := 0, locals := 133 }
set_option maxHeartbeats 4000000 in
set_option maxRecDepth 100000 in
theorem mX8_carryOut (l : Launch) (D : va_G) (cy : Nat → ClassId) (a0 a1 a2 a3 a4 a5 a6 : Nat) (st : Nat → Int32) (gr : Nat → Int64) (hi : Nat → Int32) (gh : Nat → Int64) (rc : Int32) (tx : Nat → Int32) (tl : Int32) (rk : Nat → Int32) (tb : Int32) (tk : Int64) (at_ : Int32) (ltr : Int32) (on_ : Int32) (tw : Int32) (th : Int32) (nu : Int32)  (r : Int32) (st' : Nat → Int32) (gr' : Nat → Int64) (hi' : Nat → Int32) (gh' : Nat → Int64) (rc' : Int32) (tl' : Int32) (tb' : Int32) (tk' : Int64) (at_' : Int32) (ltr' : Int32) (on_' : Int32) (tw' : Int32) (th' : Int32) (nu' : Int32) (hf : fX8_carryOut st gr hi gh rc tx tl tb tk at_ ltr on_ tw th nu = some (r, st', gr', hi', gh', rc', tl', tb', tk', at_', ltr', on_', tw', th', nu')) : xMi l D cy yX8_carryOut aX8_carryOut rmX8_carryOut ([.ref a0] : List Value) (wX8 cy a0 a1 a2 a3 a4 a5 a6 st gr hi gh rc tx tl rk tb tk at_ ltr on_ tw th nu) (wX8 cy a0 a1 a2 a3 a4 a5 a6 st' gr' hi' gh' rc' tx tl' rk tb' tk' at_' ltr' on_' tw' th' nu') r := by
  intro hz
  refine x_start (Qc := xQi D cy _ r) (cc := cX8_carryOut) (maxL := 3) (ret := (some .int)) (by decide) rfl (Nat.le_of_ble_eq_true rfl) (lv := [(0, .ref a0)]) rfl ?_
  intro p e s m below meth c ls A hx hb hr hml hown hts hlocks hK hP hD hS hA hN hl
  have hown : s.vm.findClass RX8 = some m.cls := hown
  have hbg : ∀ w ∈ wsL_law, w ∈ aX8_carryOut := fun w h => List.mem_cons_of_mem _ h
  have wd0 : (Cond.fieldLink RX8 210 "ClientMoneyBookModel" "at" "I").before ([.ref a0] : List Value).toArray s = true := hts _ (List.mem_cons_of_mem _ wm_39_11)
  have wd1 : (Cond.fieldLink RX8 207 "ClientMoneyBookModel" "textLength" "I").before ([.ref a0] : List Value).toArray s = true := hts _ (List.mem_cons_of_mem _ wm_34_6)
  have iX8 : ∀ w ∈ u_ws RX8 TX8 16, w ∈ aX8_carryOut := fun w h => List.mem_cons_of_mem _ (inlX8 w h)
  unfold fX8_carryOut at hf
  refine lv_aload_n hx hb dX8_carryOut_0 rfl (lv_at hl 0 rfl) ?_
  obtain ⟨r_1, at__2, ltr_3, on__4, tw_5, th_6, nu_7, h_8, hf⟩ := bd7_el hf
  refine x_callVi (As := []) (rest := []) ⟨hx, hb, hml, hown, hts⟩ (mX8_findError l D cy a0 a1 a2 a3 a4 a5 a6 st gr hi gh rc tx tl rk tb tk at_ ltr on_ tw th nu  r_1 at__2 ltr_3 on__4 tw_5 th_6 nu_7 h_8) (cwV 0 hts (gcV_X8_findError hbg wm_39_7) rfl rfl rfl kdX8_findError ⟨Nat.le_of_ble_eq_true rfl, Nat.le_of_ble_eq_true rfl⟩) (w1 := []) (w2 := []) (w' := wX8 cy a0 a1 a2 a3 a4 a5 a6 st gr hi gh rc tx tl rk tb tk at__2 ltr_3 on__4 tw_5 th_6 nu_7) (List.append_nil _) (List.append_nil _) hP hK hD hN hS hA (q0 := 0) rfl rfl rfl rfl hl rfl (Nat.le_of_ble_eq_true rfl) dX8_carryOut_1 ⟨Nat.zero_le _, Nat.zero_le _⟩ (fun H locs hP hD hS => ?_)
  refine lv_bipush (v := (-6)) hx hb dX8_carryOut_4 (by decide) ?_
  refine lv_icmp_eq (tgt := 12) hx hb dX8_carryOut_6 (by decide) (fun c_9 => ?_) (fun c_9 => ?_)
  · have hf := x_t c_9 hf
    refine lv_aload_n hx hb dX8_carryOut_12 rfl (lv_at hl 0 rfl) ?_
    obtain ⟨hi_10, gh_11, rc_12, h_13, hf⟩ := bd3_el hf
    refine x_callVv (As := []) (rest := []) ⟨hx, hb, hml, hown, hts⟩ (mX8_record l D cy a0 a1 a2 a3 a4 a5 a6 st gr hi gh rc tx tl rk tb tk at__2 ltr_3 on__4 tw_5 th_6 nu_7  hi_10 gh_11 rc_12 h_13) (cwV 0 hts (gcV_X8_record hbg wm_7_3) rfl rfl rfl kdX8_record ⟨Nat.le_of_ble_eq_true rfl, Nat.le_of_ble_eq_true rfl⟩) (w1 := []) (w2 := []) (w' := wX8 cy a0 a1 a2 a3 a4 a5 a6 st gr hi_10 gh_11 rc_12 tx tl rk tb tk at__2 ltr_3 on__4 tw_5 th_6 nu_7) (List.append_nil _) (List.append_nil _) hP hK hD hN hS hA (q0 := 0) rfl rfl rfl rfl hl rfl (Nat.le_of_ble_eq_true rfl) dX8_carryOut_13 ⟨Nat.zero_le _, Nat.zero_le _⟩ (fun H locs hP hD hS => ?_)
    refine lv_iconst (v := 0) hx hb dX8_carryOut_16 (by decide) ?_
    refine lv_istore_n (lv' := [(1, .int 0), (0, .ref a0)]) hx hb dX8_carryOut_17 rfl hl (by decide) rfl (fun ls hl => ?_)
    refine lv_aload_n hx hb dX8_carryOut_18 rfl (lv_at hl 1 rfl) ?_
    refine lv_iconst (v := 0) hx hb dX8_carryOut_19 (by decide) ?_
    refine x_put hx hb (C := RX8) (T := TX8) (N := 16) (ci := 8) hts iX8 tyX8 tyX8_ok nmX8 hown hK hP hD hS 0 rfl rfl 10 (by decide) wd0 rfl rfl (ty := .int) rfl rfl rfl (Nat.le_of_ble_eq_true rfl) (w' := wX8 cy a0 a1 a2 a3 a4 a5 a6 st gr hi_10 gh_11 rc_12 tx tl rk tb tk 0 ltr_3 on__4 tw_5 th_6 nu_7) rfl dX8_carryOut_20 (fun H locs hP hD hS => ?_)
    refine lv_iconst (v := 1) hx hb dX8_carryOut_23 (by decide) ?_
    refine lv_istore_n (lv' := [(2, .int 1), (1, .int 0), (0, .ref a0)]) hx hb dX8_carryOut_24 rfl hl (by decide) rfl (fun ls hl => ?_)
    have hL_25 : ∀ (n : Nat) (st_48 : Nat → Int32) (gr_49 : Nat → Int64) (tb_50 : Int32) (tk_51 : Int64) (at__52 : Int32) (ltr_53 : Int32) (on__54 : Int32) (tw_55 : Int32) (th_56 : Int32) (nu_57 : Int32) (z1_58 : Int32) (z2_59 : Int32) (o : (Nat → Int32) × (Nat → Int64) × Int32 × Int64 × Int32 × Int32 × Int32 × Int32 × Int32 × Int32 × Int32) (H : Heap) (locs : List Loc) (ls : Array Slot), fX8_carryOut_L25 tx tl n st_48 gr_49 tb_50 tk_51 at__52 ltr_53 on__54 tw_55 th_56 nu_57 z1_58 z2_59 = some o → va_P D vwCl (wX8 cy a0 a1 a2 a3 a4 a5 a6 st_48 gr_49 hi_10 gh_11 rc_12 tx tl rk tb_50 tk_51 at__52 ltr_53 on__54 tw_55 th_56 nu_57) H → va_D A (wX8 cy a0 a1 a2 a3 a4 a5 a6 st_48 gr_49 hi_10 gh_11 rc_12 tx tl rk tb_50 tk_51 at__52 ltr_53 on__54 tw_55 th_56 nu_57) → va_S A s.heap H locs → lv_has ls 3 [(0, .ref a0), (1, .int z1_58), (2, .int z2_59)] → True → ((∀ (st_60 : Nat → Int32) (gr_61 : Nat → Int64) (tb_62 : Int32) (tk_63 : Int64) (at__64 : Int32) (ltr_65 : Int32) (on__66 : Int32) (tw_67 : Int32) (th_68 : Int32) (nu_69 : Int32) (x1_70 : Int32) , o = (st_60, gr_61, tb_62, tk_63, at__64, ltr_65, on__66, tw_67, th_68, nu_69, x1_70) → ∀ (H : Heap) (locs : List Loc) (ls : Array Slot), va_P D vwCl (wX8 cy a0 a1 a2 a3 a4 a5 a6 st_60 gr_61 hi_10 gh_11 rc_12 tx tl rk tb_62 tk_63 at__64 ltr_65 on__66 tw_67 th_68 nu_69) H → va_D A (wX8 cy a0 a1 a2 a3 a4 a5 a6 st_60 gr_61 hi_10 gh_11 rc_12 tx tl rk tb_62 tk_63 at__64 ltr_65 on__66 tw_67 th_68 nu_69) → va_S A s.heap H locs → lv_has ls 3 [(0, .ref a0), (1, .int x1_70)] → W p l e rmX8_carryOut s m ([.ref a0] : List Value).toArray below meth c H locs 0 0 (MQ below (xQi D cy (wX8 cy a0 a1 a2 a3 a4 a5 a6 st' gr' hi' gh' rc' tx tl' rk tb' tk' at_' ltr' on_' tw' th' nu') r A) ([.ref a0] : List Value).toArray s 0 0 A) (F0 m 79 ls []))) → W p l e rmX8_carryOut s m ([.ref a0] : List Value).toArray below meth c H locs 0 0 (MQ below (xQi D cy (wX8 cy a0 a1 a2 a3 a4 a5 a6 st' gr' hi' gh' rc' tx tl' rk tb' tk' at_' ltr' on_' tw' th' nu') r A) ([.ref a0] : List Value).toArray s 0 0 A) (F0 m 25 ls []) := by
      intro n
      induction n with
      | zero =>
        intro st_48 gr_49 tb_50 tk_51 at__52 ltr_53 on__54 tw_55 th_56 nu_57 z1_58 z2_59 o_25 H locs ls hf
        rw [fX8_carryOut_L25] at hf
        cases hf
      | succ n ih =>
        intro st_48 gr_49 tb_50 tk_51 at__52 ltr_53 on__54 tw_55 th_56 nu_57 z1_58 z2_59 o_25 H locs ls hf hP hD hS hl hr_25 kx_25
        rw [fX8_carryOut_L25] at hf
        refine lv_iload_n hx hb dX8_carryOut_25 rfl (lv_at hl 2 rfl) ?_
        refine lv_if_eq (tgt := 79) hx hb dX8_carryOut_26 (by decide) (fun c_71 => ?_) (fun c_71 => ?_)
        · have hf := x_t c_71 hf
          exact kx_25 st_48 gr_49 tb_50 tk_51 at__52 ltr_53 on__54 tw_55 th_56 nu_57 z1_58 (Option.some.inj hf).symm _ _ _ hP hD hS (lv_sub hl [0, 1] rfl)
        · have hf := x_f c_71 hf
          refine lv_aload_n hx hb dX8_carryOut_29 rfl (lv_at hl 0 rfl) ?_
          refine x_get hx hb (C := RX8) (T := TX8) (N := 16) (ci := 8) hts iX8 hown hK hP 0 rfl rfl 10 (by decide) wd0 rfl (.int at__52) rfl dX8_carryOut_30 ?_
          refine lv_aload_n hx hb dX8_carryOut_33 rfl (lv_at hl 0 rfl) ?_
          refine x_get hx hb (C := RX8) (T := TX8) (N := 16) (ci := 8) hts iX8 hown hK hP 0 rfl rfl 6 (by decide) wd1 rfl (.int tl) rfl dX8_carryOut_34 ?_
          refine lv_icmp_ge (tgt := 79) hx hb dX8_carryOut_37 (by decide) (fun c_72 => ?_) (fun c_72 => ?_)
          · have hf := x_t c_72 hf
            exact kx_25 st_48 gr_49 tb_50 tk_51 at__52 ltr_53 on__54 tw_55 th_56 nu_57 z1_58 (Option.some.inj hf).symm _ _ _ hP hD hS (lv_sub hl [0, 1] rfl)
          · have hf := x_f c_72 hf
            refine lv_aload_n hx hb dX8_carryOut_40 rfl (lv_at hl 0 rfl) ?_
            obtain ⟨r_73, at__74, ltr_75, on__76, tw_77, th_78, nu_79, h_80, hf⟩ := bd7_el hf
            refine x_callVi (As := []) (rest := []) ⟨hx, hb, hml, hown, hts⟩ (mX8_readsOrder l D cy a0 a1 a2 a3 a4 a5 a6 st_48 gr_49 hi_10 gh_11 rc_12 tx tl rk tb_50 tk_51 at__52 ltr_53 on__54 tw_55 th_56 nu_57  r_73 at__74 ltr_75 on__76 tw_77 th_78 nu_79 h_80) (cwV 0 hts (gcV_X8_readsOrder hbg wm_39_12) rfl rfl rfl kdX8_readsOrder ⟨Nat.le_of_ble_eq_true rfl, Nat.le_of_ble_eq_true rfl⟩) (w1 := []) (w2 := []) (w' := wX8 cy a0 a1 a2 a3 a4 a5 a6 st_48 gr_49 hi_10 gh_11 rc_12 tx tl rk tb_50 tk_51 at__74 ltr_75 on__76 tw_77 th_78 nu_79) (List.append_nil _) (List.append_nil _) hP hK hD hN hS hA (q0 := 0) rfl rfl rfl rfl hl rfl (Nat.le_of_ble_eq_true rfl) dX8_carryOut_41 ⟨Nat.zero_le _, Nat.zero_le _⟩ (fun H locs hP hD hS => ?_)
            refine lv_pop hx hb dX8_carryOut_44 rfl ?_
            refine lv_aload_n hx hb dX8_carryOut_45 rfl (lv_at hl 0 rfl) ?_
            refine lv_bipush (v := 59) hx hb dX8_carryOut_46 (by decide) ?_
            obtain ⟨r_81, at__82, h_83, hf⟩ := bd2_el hf
            refine x_callVi (As := [.int 59]) (rest := []) ⟨hx, hb, hml, hown, hts⟩ (mX8_isNext l D cy a0 a1 a2 a3 a4 a5 a6 st_48 gr_49 hi_10 gh_11 rc_12 tx tl rk tb_50 tk_51 at__74 ltr_75 on__76 tw_77 th_78 nu_79 59 r_81 at__82 h_83) (cwV 1 hts (gcV_X8_isNext hbg wm_40_5) rfl rfl rfl kdX8_isNext ⟨Nat.le_of_ble_eq_true rfl, Nat.le_of_ble_eq_true rfl⟩) (w1 := []) (w2 := []) (w' := wX8 cy a0 a1 a2 a3 a4 a5 a6 st_48 gr_49 hi_10 gh_11 rc_12 tx tl rk tb_50 tk_51 at__82 ltr_75 on__76 tw_77 th_78 nu_79) (List.append_nil _) (List.append_nil _) hP hK hD hN hS hA (q0 := 0) rfl rfl rfl rfl hl rfl (Nat.le_of_ble_eq_true rfl) dX8_carryOut_48 ⟨Nat.zero_le _, Nat.zero_le _⟩ (fun H locs hP hD hS => ?_)
            refine lv_pop hx hb dX8_carryOut_51 rfl ?_
            refine lv_aload_n hx hb dX8_carryOut_52 rfl (lv_at hl 0 rfl) ?_
            obtain ⟨r_84, h_85, hf⟩ := bd1_el hf
            refine x_callVi (As := []) (rest := []) ⟨hx, hb, hml, hown, hts⟩ (mX8_whyNotDone l D cy a0 a1 a2 a3 a4 a5 a6 st_48 gr_49 hi_10 gh_11 rc_12 tx tl rk tb_50 tk_51 at__82 ltr_75 on__76 tw_77 th_78 nu_79  r_84 h_85) (cwV 0 hts (gcV_X8_whyNotDone hbg wm_41_14) rfl rfl rfl kdX8_whyNotDone ⟨Nat.le_of_ble_eq_true rfl, Nat.le_of_ble_eq_true rfl⟩) (w1 := []) (w2 := []) (w' := wX8 cy a0 a1 a2 a3 a4 a5 a6 st_48 gr_49 hi_10 gh_11 rc_12 tx tl rk tb_50 tk_51 at__82 ltr_75 on__76 tw_77 th_78 nu_79) (List.append_nil _) (List.append_nil _) hP hK hD hN hS hA (q0 := 0) rfl rfl rfl rfl hl rfl (Nat.le_of_ble_eq_true rfl) dX8_carryOut_53 ⟨Nat.zero_le _, Nat.zero_le _⟩ (fun H locs hP hD hS => ?_)
            refine lv_if_ne (tgt := 63) hx hb dX8_carryOut_56 (by decide) (fun c_86 => ?_) (fun c_86 => ?_)
            · have hf := x_f c_86 hf
              refine lv_iconst (v := 0) hx hb dX8_carryOut_63 (by decide) ?_
              refine lv_istore_n (lv' := [(2, .int 0), (0, .ref a0), (1, .int z1_58)]) hx hb dX8_carryOut_64 rfl hl (by decide) rfl (fun ls hl => ?_)
              refine lv_iload_n hx hb dX8_carryOut_65 rfl (lv_at hl 0 rfl) ?_
              refine lv_if_eq (tgt := 25) hx hb dX8_carryOut_66 (by decide) (fun c_87 => ?_) (fun c_87 => ?_)
              · exact ih st_48 gr_49 tb_50 tk_51 at__82 ltr_75 on__76 tw_77 th_78 nu_79 z1_58 0 _ _ _ _ hf hP hD hS (lv_sub hl [1, 2, 0] rfl) hr_25 kx_25
              · exact absurd (by decide) c_87
            · have hf := x_t c_86 hf
              refine lv_iconst (v := 1) hx hb dX8_carryOut_59 (by decide) ?_
              refine lv_goto (tgt := 64) hx hb dX8_carryOut_60 (by decide) ?_
              refine lv_istore_n (lv' := [(2, .int 1), (0, .ref a0), (1, .int z1_58)]) hx hb dX8_carryOut_64 rfl hl (by decide) rfl (fun ls hl => ?_)
              refine lv_iload_n hx hb dX8_carryOut_65 rfl (lv_at hl 0 rfl) ?_
              refine lv_if_eq (tgt := 25) hx hb dX8_carryOut_66 (by decide) (fun c_88 => ?_) (fun c_88 => ?_)
              · exact absurd c_88 (by decide)
              · refine lv_aload_n hx hb dX8_carryOut_69 rfl (lv_at hl 1 rfl) ?_
                obtain ⟨st_89, gr_90, tb_91, tk_92, h_93, hf⟩ := bd4_el hf
                refine x_callVv (As := []) (rest := []) ⟨hx, hb, hml, hown, hts⟩ (mX8_does l D cy a0 a1 a2 a3 a4 a5 a6 st_48 gr_49 hi_10 gh_11 rc_12 tx tl rk tb_50 tk_51 at__82 ltr_75 on__76 tw_77 th_78 nu_79  st_89 gr_90 tb_91 tk_92 h_93) (cwV 0 hts (gcV_X8_does hbg wm_41_18) rfl rfl rfl kdX8_does ⟨Nat.le_of_ble_eq_true rfl, Nat.le_of_ble_eq_true rfl⟩) (w1 := []) (w2 := []) (w' := wX8 cy a0 a1 a2 a3 a4 a5 a6 st_89 gr_90 hi_10 gh_11 rc_12 tx tl rk tb_91 tk_92 at__82 ltr_75 on__76 tw_77 th_78 nu_79) (List.append_nil _) (List.append_nil _) hP hK hD hN hS hA (q0 := 0) rfl rfl rfl rfl hl rfl (Nat.le_of_ble_eq_true rfl) dX8_carryOut_70 ⟨Nat.zero_le _, Nat.zero_le _⟩ (fun H locs hP hD hS => ?_)
                refine lv_iinc (v := (z1_58 + 1)) (lv' := [(1, .int (z1_58 + 1)), (2, .int 1), (0, .ref a0)]) hx hb dX8_carryOut_73 hl (k := 2) rfl rfl (by decide) rfl (fun ls hl => ?_)
                refine lv_goto (tgt := 25) hx hb dX8_carryOut_76 (by decide) ?_
                exact ih st_89 gr_90 tb_91 tk_92 at__82 ltr_75 on__76 tw_77 th_78 nu_79 (z1_58 + 1) 1 _ _ _ _ hf hP hD hS (lv_sub hl [2, 0, 1] rfl) hr_25 kx_25
    obtain ⟨st_37, gr_38, tb_39, tk_40, at__41, ltr_42, on__43, tw_44, th_45, nu_46, x1_47, h1_25, hf⟩ := bd11_el hf
    refine hL_25 2147483648 st gr tb tk 0 ltr_3 on__4 tw_5 th_6 nu_7 0 1 _ _ _ _ h1_25 hP hD hS (lv_sub hl [2, 1, 0] rfl) trivial (fun st_379 gr_389 tb_399 tk_409 at__419 ltr_429 on__439 tw_449 th_459 nu_469 x1_479 ho H locs ls hP hD hS hl => ?_)
    cases ho
    refine lv_aload_n hx hb dX8_carryOut_79 rfl (lv_at hl 0 rfl) ?_
    refine lv_iconst (v := 0) hx hb dX8_carryOut_80 (by decide) ?_
    refine x_put hx hb (C := RX8) (T := TX8) (N := 16) (ci := 8) hts iX8 tyX8 tyX8_ok nmX8 hown hK hP hD hS 0 rfl rfl 6 (by decide) wd1 rfl rfl (ty := .int) rfl rfl rfl (Nat.le_of_ble_eq_true rfl) (w' := wX8 cy a0 a1 a2 a3 a4 a5 a6 st_37 gr_38 hi_10 gh_11 rc_12 tx 0 rk tb_39 tk_40 at__41 ltr_42 on__43 tw_44 th_45 nu_46) rfl dX8_carryOut_81 (fun H locs hP hD hS => ?_)
    refine lv_iload_n hx hb dX8_carryOut_84 rfl (lv_at hl 1 rfl) ?_
    have hf := Option.some.inj hf
    cases hf
    exact x_iret hx hb hr hlocks hK hP hD hS dX8_carryOut_85
  · have hf := x_f c_9 hf
    refine lv_bipush (v := (-5)) hx hb dX8_carryOut_9 (by decide) ?_
    have hf := Option.some.inj hf
    cases hf
    exact x_iret hx hb hr hlocks hK hP hD hS dX8_carryOut_11
