theorem kdX8_thinks : yX8_thinks.cls = RX8 ∧ yX8_thinks.cls ≠ "java/lang/invoke/MethodHandle" ∧ yX8_thinks.cls ≠ "java/lang/invoke/VarHandle" ∧ (parseMethodDescriptor yX8_thinks.desc).map (fun d => d.parameters.length) = some 1 := by decide +kernel
def rmX8_thinks : Room := { frames := 1, cells := 0, slots := 0, locals := 22 }
set_option maxHeartbeats 4000000 in
set_option maxRecDepth 100000 in
theorem mX8_thinks (l : Launch) (D : va_G) (cy : Nat → ClassId) (a0 a1 a2 a3 a4 a5 a6 : Nat) (st : Nat → Int32) (gr : Nat → Int64) (hi : Nat → Int32) (gh : Nat → Int64) (rc : Int32) (tx : Nat → Int32) (tl : Int32) (rk : Nat → Int32) (tb : Int32) (tk : Int64) (at_ : Int32) (ltr : Int32) (on_ : Int32) (tw : Int32) (th : Int32) (nu : Int32) (p1 : Int32) (tb' : Int32) (tk' : Int64) (hf : fX8_thinks st gr tb tk p1 = some (tb', tk')) : xMv l D cy yX8_thinks aX8_thinks rmX8_thinks ([.ref a0, .int p1] : List Value) (wX8 cy a0 a1 a2 a3 a4 a5 a6 st gr hi gh rc tx tl rk tb tk at_ ltr on_ tw th nu) (wX8 cy a0 a1 a2 a3 a4 a5 a6 st gr hi gh rc tx tl rk tb' tk' at_ ltr on_ tw th nu) := by
  intro hz
  refine x_start (Qc := xQv D cy _) (cc := cX8_thinks) (maxL := 2) (ret := none) (by decide) rfl (Nat.le_of_ble_eq_true rfl) (lv := [(0, .ref a0), (1, .int p1)]) rfl ?_
  intro p e s m below meth c ls A hx hb hr hml hown hts hlocks hK hP hD hS hA hN hl
  have hown : s.vm.findClass RX8 = some m.cls := hown
  have hbg : ∀ w ∈ wsL_law, w ∈ aX8_thinks := fun w h => List.mem_cons_of_mem _ h
  have wd0 : (Cond.fieldLink RX8 144 "ClientMoneyBookModel" "thoughtBalance" "I").before ([.ref a0, .int p1] : List Value).toArray s = true := hts _ (List.mem_cons_of_mem _ wm_23_17)
  have wd1 : (Cond.fieldLink RX8 13 "ClientMoneyBookModel" "great" "[J").before ([.ref a0, .int p1] : List Value).toArray s = true := hts _ (List.mem_cons_of_mem _ wm_4_10)
  have wd2 : (Cond.fieldLink RX8 147 "ClientMoneyBookModel" "thoughtCount" "J").before ([.ref a0, .int p1] : List Value).toArray s = true := hts _ (List.mem_cons_of_mem _ wm_23_18)
  have iX8 : ∀ w ∈ u_ws RX8 TX8 16, w ∈ aX8_thinks := fun w h => List.mem_cons_of_mem _ (inlX8 w h)
  unfold fX8_thinks at hf
  refine lv_aload_n hx hb dX8_thinks_0 rfl (lv_at hl 0 rfl) ?_
  refine lv_aload_n hx hb dX8_thinks_1 rfl (lv_at hl 0 rfl) ?_
  refine lv_iload_n hx hb dX8_thinks_2 rfl (lv_at hl 1 rfl) ?_
  refine lv_iconst (v := 1) hx hb dX8_thinks_3 (by decide) ?_
  obtain ⟨r_1, h_2, hf⟩ := bd1_el hf
  refine x_callVi (As := [.int p1, .int 1]) (rest := [.ref a0]) ⟨hx, hb, hml, hown, hts⟩ (mX8_part l D cy a0 a1 a2 a3 a4 a5 a6 st gr hi gh rc tx tl rk tb tk at_ ltr on_ tw th nu p1 1 r_1 h_2) (cwV 2 hts (gcV_X8_part hbg wm_9_9) rfl rfl rfl kdX8_part ⟨Nat.le_of_ble_eq_true rfl, Nat.le_of_ble_eq_true rfl⟩) (w1 := []) (w2 := []) (w' := wX8 cy a0 a1 a2 a3 a4 a5 a6 st gr hi gh rc tx tl rk tb tk at_ ltr on_ tw th nu) (List.append_nil _) (List.append_nil _) hP hK hD hN hS hA (q0 := 0) rfl rfl rfl rfl hl rfl (Nat.le_of_ble_eq_true rfl) dX8_thinks_4 ⟨Nat.zero_le _, Nat.zero_le _⟩ (fun H locs hP hD hS => ?_)
  refine x_put hx hb (C := RX8) (T := TX8) (N := 16) (ci := 8) hts iX8 tyX8 tyX8_ok nmX8 hown hK hP hD hS 0 rfl rfl 8 (by decide) wd0 rfl rfl (ty := .int) rfl rfl rfl (Nat.le_of_ble_eq_true rfl) (w' := wX8 cy a0 a1 a2 a3 a4 a5 a6 st gr hi gh rc tx tl rk r_1 tk at_ ltr on_ tw th nu) rfl dX8_thinks_7 (fun H locs hP hD hS => ?_)
  refine lv_aload_n hx hb dX8_thinks_10 rfl (lv_at hl 0 rfl) ?_
  refine lv_aload_n hx hb dX8_thinks_11 rfl (lv_at hl 0 rfl) ?_
  refine x_get hx hb (C := RX8) (T := TX8) (N := 16) (ci := 8) hts iX8 hown hK hP 0 rfl rfl 1 (by decide) wd1 rfl (.ref a2) rfl dX8_thinks_12 ?_
  refine lv_iload_n hx hb dX8_thinks_15 rfl (lv_at hl 1 rfl) ?_
  obtain ⟨hi_3, hf⟩ := ckI_el hf
  refine va_lald hx hb hK hP 2 2 rfl rfl hi_3 dX8_thinks_16 ?_
  obtain ⟨tk_4, etk_4, hf⟩ := lt_el hf
  refine x_topl etk_4 ?_
  refine x_put hx hb (C := RX8) (T := TX8) (N := 16) (ci := 8) hts iX8 tyX8 tyX8_ok nmX8 hown hK hP hD hS 0 rfl rfl 9 (by decide) wd2 rfl rfl (ty := .long) rfl rfl rfl (Nat.le_of_ble_eq_true rfl) (w' := wX8 cy a0 a1 a2 a3 a4 a5 a6 st gr hi gh rc tx tl rk r_1 tk_4 at_ ltr on_ tw th nu) rfl dX8_thinks_17 (fun H locs hP hD hS => ?_)
  have hf := Option.some.inj hf
  cases hf
  exact x_vret hx hb hr hlocks hK hP hD hS dX8_thinks_20
theorem kdX8_passesDay : yX8_passesDay.cls = RX8 ∧ yX8_passesDay.cls ≠ "java/lang/invoke/MethodHandle" ∧ yX8_passesDay.cls ≠ "java/lang/invoke/VarHandle" ∧ (parseMethodDescriptor yX8_passesDay.desc).map (fun d => d.parameters.length) = some 0 := by decide +kernel
def rmX8_passesDay : Room := { frames := 2, cells := 0, slots := 0, locals := 51 }
set_option maxHeartbeats 4000000 in
set_option maxRecDepth 100000 in
theorem mX8_passesDay (l : Launch) (D : va_G) (cy : Nat → ClassId) (a0 a1 a2 a3 a4 a5 a6 : Nat) (st : Nat → Int32) (gr : Nat → Int64) (hi : Nat → Int32) (gh : Nat → Int64) (rc : Int32) (tx : Nat → Int32) (tl : Int32) (rk : Nat → Int32) (tb : Int32) (tk : Int64) (at_ : Int32) (ltr : Int32) (on_ : Int32) (tw : Int32) (th : Int32) (nu : Int32)  (r : Int64) (st' : Nat → Int32) (gr' : Nat → Int64) (tb' : Int32) (tk' : Int64) (hf : fX8_passesDay st gr tb tk = some (r, st', gr', tb', tk')) : xMl l D cy yX8_passesDay aX8_passesDay rmX8_passesDay ([.ref a0] : List Value) (wX8 cy a0 a1 a2 a3 a4 a5 a6 st gr hi gh rc tx tl rk tb tk at_ ltr on_ tw th nu) (wX8 cy a0 a1 a2 a3 a4 a5 a6 st' gr' hi gh rc tx tl rk tb' tk' at_ ltr on_ tw th nu) r := by
  intro hz
  refine x_start (Qc := xQl D cy _ r) (cc := cX8_passesDay) (maxL := 5) (ret := (some .long)) (by decide) rfl (Nat.le_of_ble_eq_true rfl) (lv := [(0, .ref a0)]) rfl ?_
  intro p e s m below meth c ls A hx hb hr hml hown hts hlocks hK hP hD hS hA hN hl
  have hown : s.vm.findClass RX8 = some m.cls := hown
  have hbg : ∀ w ∈ wsL_law, w ∈ aX8_passesDay := fun w h => List.mem_cons_of_mem _ h
  have wd0 : (Cond.fieldLink RX8 7 "ClientMoneyBookModel" "state" "[I").before ([.ref a0] : List Value).toArray s = true := hts _ (List.mem_cons_of_mem _ wm_4_9)
  have wd1 : (Cond.fieldLink RX8 144 "ClientMoneyBookModel" "thoughtBalance" "I").before ([.ref a0] : List Value).toArray s = true := hts _ (List.mem_cons_of_mem _ wm_23_17)
  have wd2 : (Cond.fieldLink RX8 13 "ClientMoneyBookModel" "great" "[J").before ([.ref a0] : List Value).toArray s = true := hts _ (List.mem_cons_of_mem _ wm_4_10)
  have wd3 : (Cond.fieldLink RX8 147 "ClientMoneyBookModel" "thoughtCount" "J").before ([.ref a0] : List Value).toArray s = true := hts _ (List.mem_cons_of_mem _ wm_23_18)
  have iX8 : ∀ w ∈ u_ws RX8 TX8 16, w ∈ aX8_passesDay := fun w h => List.mem_cons_of_mem _ (inlX8 w h)
  unfold fX8_passesDay at hf
  refine lv_lconst (v := 0) hx hb dX8_passesDay_0 (by decide) ?_
  refine lv_lstore_n (lv' := [(1, .long 0), (0, .ref a0)]) hx hb dX8_passesDay_1 rfl hl (by decide) rfl (fun ls hl => ?_)
  refine lv_aload_n hx hb dX8_passesDay_2 rfl (lv_at hl 1 rfl) ?_
  refine x_get hx hb (C := RX8) (T := TX8) (N := 16) (ci := 8) hts iX8 hown hK hP 0 rfl rfl 0 (by decide) wd0 rfl (.ref a1) rfl dX8_passesDay_3 ?_
  refine lv_iconst (v := 0) hx hb dX8_passesDay_6 (by decide) ?_
  refine lv_dup2_11 hx hb dX8_passesDay_7 rfl rfl ?_
  obtain ⟨hi_1, hf⟩ := ckI_el hf
  refine va_iald hx hb hK hP 1 1 rfl rfl hi_1 dX8_passesDay_8 ?_
  refine lv_iconst (v := 1) hx hb dX8_passesDay_9 (by decide) ?_
  refine lv_iadd hx hb dX8_passesDay_10 ?_
  obtain ⟨hi_2, hf⟩ := ckI_el hf
  obtain ⟨st_3, est_3, hf⟩ := lt_el hf
  refine x_iast hx hb hK hP hD hS 1 rfl hi_2 est_3 (w' := wX8 cy a0 a1 a2 a3 a4 a5 a6 st_3 gr hi gh rc tx tl rk tb tk at_ ltr on_ tw th nu) rfl dX8_passesDay_11 (fun H locs hP hD hS => ?_)
  refine lv_iconst (v := 0) hx hb dX8_passesDay_12 (by decide) ?_
  refine lv_istore_n (lv' := [(3, .int 0), (1, .long 0), (0, .ref a0)]) hx hb dX8_passesDay_13 rfl hl (by decide) rfl (fun ls hl => ?_)
  have hL_14 : ∀ (n : Nat) (st_53 : Nat → Int32) (gr_54 : Nat → Int64) (tb_55 : Int32) (tk_56 : Int64) (z1_57 : Int64) (z3_58 : Int32) (o : (Nat → Int32) × (Nat → Int64) × Int32 × Int64 × Int64) (H : Heap) (locs : List Loc) (ls : Array Slot), fX8_passesDay_L14  n st_53 gr_54 tb_55 tk_56 z1_57 z3_58 = some o → va_P D vwCl (wX8 cy a0 a1 a2 a3 a4 a5 a6 st_53 gr_54 hi gh rc tx tl rk tb_55 tk_56 at_ ltr on_ tw th nu) H → va_D A (wX8 cy a0 a1 a2 a3 a4 a5 a6 st_53 gr_54 hi gh rc tx tl rk tb_55 tk_56 at_ ltr on_ tw th nu) → va_S A s.heap H locs → lv_has ls 5 [(0, .ref a0), (1, .long z1_57), (3, .int z3_58)] → True → ((∀ (st_59 : Nat → Int32) (gr_60 : Nat → Int64) (tb_61 : Int32) (tk_62 : Int64) (x1_63 : Int64) , o = (st_59, gr_60, tb_61, tk_62, x1_63) → ∀ (H : Heap) (locs : List Loc) (ls : Array Slot), va_P D vwCl (wX8 cy a0 a1 a2 a3 a4 a5 a6 st_59 gr_60 hi gh rc tx tl rk tb_61 tk_62 at_ ltr on_ tw th nu) H → va_D A (wX8 cy a0 a1 a2 a3 a4 a5 a6 st_59 gr_60 hi gh rc tx tl rk tb_61 tk_62 at_ ltr on_ tw th nu) → va_S A s.heap H locs → lv_has ls 5 [(0, .ref a0), (1, .long x1_63)] → W p l e rmX8_passesDay s m ([.ref a0] : List Value).toArray below meth c H locs 0 0 (MQ below (xQl D cy (wX8 cy a0 a1 a2 a3 a4 a5 a6 st' gr' hi gh rc tx tl rk tb' tk' at_ ltr on_ tw th nu) r A) ([.ref a0] : List Value).toArray s 0 0 A) (F0 m 93 ls []))) → W p l e rmX8_passesDay s m ([.ref a0] : List Value).toArray below meth c H locs 0 0 (MQ below (xQl D cy (wX8 cy a0 a1 a2 a3 a4 a5 a6 st' gr' hi gh rc tx tl rk tb' tk' at_ ltr on_ tw th nu) r A) ([.ref a0] : List Value).toArray s 0 0 A) (F0 m 14 ls []) := by
    intro n
    induction n with
    | zero =>
      intro st_53 gr_54 tb_55 tk_56 z1_57 z3_58 o_14 H locs ls hf
      rw [fX8_passesDay_L14] at hf
      cases hf
    | succ n ih =>
      intro st_53 gr_54 tb_55 tk_56 z1_57 z3_58 o_14 H locs ls hf hP hD hS hl hr_14 kx_14
      rw [fX8_passesDay_L14] at hf
      refine lv_iload_n hx hb dX8_passesDay_14 rfl (lv_at hl 2 rfl) ?_
      refine lv_aload_n hx hb dX8_passesDay_15 rfl (lv_at hl 0 rfl) ?_
      refine x_get hx hb (C := RX8) (T := TX8) (N := 16) (ci := 8) hts iX8 hown hK hP 0 rfl rfl 0 (by decide) wd0 rfl (.ref a1) rfl dX8_passesDay_16 ?_
      refine lv_iconst (v := 5) hx hb dX8_passesDay_19 (by decide) ?_
      obtain ⟨hi_64, hf⟩ := ckI_el hf
      refine va_iald hx hb hK hP 1 1 rfl rfl hi_64 dX8_passesDay_20 ?_
      refine lv_icmp_ge (tgt := 93) hx hb dX8_passesDay_21 (by decide) (fun c_65 => ?_) (fun c_65 => ?_)
      · have hf := x_t c_65 hf
        exact kx_14 st_53 gr_54 tb_55 tk_56 z1_57 (Option.some.inj hf).symm _ _ _ hP hD hS (lv_sub hl [0, 1] rfl)
      · have hf := x_f c_65 hf
        refine lv_aload_n hx hb dX8_passesDay_24 rfl (lv_at hl 0 rfl) ?_
        refine lv_iload_n hx hb dX8_passesDay_25 rfl (lv_at hl 2 rfl) ?_
        obtain ⟨tb_66, tk_67, h_68, hf⟩ := bd2_el hf
        refine x_callVv (As := [.int z3_58]) (rest := []) ⟨hx, hb, hml, hown, hts⟩ (mX8_thinks l D cy a0 a1 a2 a3 a4 a5 a6 st_53 gr_54 hi gh rc tx tl rk tb_55 tk_56 at_ ltr on_ tw th nu z3_58 tb_66 tk_67 h_68) (cwV 1 hts (gcV_X8_thinks hbg wm_23_19) rfl rfl rfl kdX8_thinks ⟨Nat.le_of_ble_eq_true rfl, Nat.le_of_ble_eq_true rfl⟩) (w1 := []) (w2 := []) (w' := wX8 cy a0 a1 a2 a3 a4 a5 a6 st_53 gr_54 hi gh rc tx tl rk tb_66 tk_67 at_ ltr on_ tw th nu) (List.append_nil _) (List.append_nil _) hP hK hD hN hS hA (q0 := 0) rfl rfl rfl rfl hl rfl (Nat.le_of_ble_eq_true rfl) dX8_passesDay_26 ⟨Nat.zero_le _, Nat.zero_le _⟩ (fun H locs hP hD hS => ?_)
        refine lv_aload_n hx hb dX8_passesDay_29 rfl (lv_at hl 0 rfl) ?_
        refine lv_aload_n hx hb dX8_passesDay_30 rfl (lv_at hl 0 rfl) ?_
        refine x_get hx hb (C := RX8) (T := TX8) (N := 16) (ci := 8) hts iX8 hown hK hP 0 rfl rfl 0 (by decide) wd0 rfl (.ref a1) rfl dX8_passesDay_31 ?_
        refine lv_iconst (v := 0) hx hb dX8_passesDay_34 (by decide) ?_
        obtain ⟨hi_69, hf⟩ := ckI_el hf
        refine va_iald hx hb hK hP 1 1 rfl rfl hi_69 dX8_passesDay_35 ?_
        obtain ⟨r_70, tb_71, tk_72, h_73, hf⟩ := bd3_el hf
        refine x_callVi (As := [.int (st_53 (0 : Int32).toNatClampNeg)]) (rest := []) ⟨hx, hb, hml, hown, hts⟩ (mX8_dayEnds l D cy a0 a1 a2 a3 a4 a5 a6 st_53 gr_54 hi gh rc tx tl rk tb_66 tk_67 at_ ltr on_ tw th nu (st_53 (0 : Int32).toNatClampNeg) r_70 tb_71 tk_72 h_73) (cwV 1 hts (gcV_X8_dayEnds hbg wm_23_23) rfl rfl rfl kdX8_dayEnds ⟨Nat.le_of_ble_eq_true rfl, Nat.le_of_ble_eq_true rfl⟩) (w1 := []) (w2 := []) (w' := wX8 cy a0 a1 a2 a3 a4 a5 a6 st_53 gr_54 hi gh rc tx tl rk tb_71 tk_72 at_ ltr on_ tw th nu) (List.append_nil _) (List.append_nil _) hP hK hD hN hS hA (q0 := 0) rfl rfl rfl rfl hl rfl (Nat.le_of_ble_eq_true rfl) dX8_passesDay_36 ⟨Nat.zero_le _, Nat.zero_le _⟩ (fun H locs hP hD hS => ?_)
        refine lv_istore (lv' := [(4, .int r_70), (0, .ref a0), (1, .long z1_57), (3, .int z3_58)]) hx hb dX8_passesDay_39 hl (by decide) rfl (fun ls hl => ?_)
        refine lv_aload_n hx hb dX8_passesDay_41 rfl (lv_at hl 1 rfl) ?_
        refine lv_iload_n hx hb dX8_passesDay_42 rfl (lv_at hl 3 rfl) ?_
        refine lv_iconst (v := 1) hx hb dX8_passesDay_43 (by decide) ?_
        refine lv_aload_n hx hb dX8_passesDay_44 rfl (lv_at hl 1 rfl) ?_
        refine x_get hx hb (C := RX8) (T := TX8) (N := 16) (ci := 8) hts iX8 hown hK hP 0 rfl rfl 8 (by decide) wd1 rfl (.int tb_71) rfl dX8_passesDay_45 ?_
        obtain ⟨st_74, h_75, hf⟩ := bd1_el hf
        refine x_callVv (As := [.int z3_58, .int 1, .int tb_71]) (rest := []) ⟨hx, hb, hml, hown, hts⟩ (mX8_setPart l D cy a0 a1 a2 a3 a4 a5 a6 st_53 gr_54 hi gh rc tx tl rk tb_71 tk_72 at_ ltr on_ tw th nu z3_58 1 tb_71 st_74 h_75) (cwV 3 hts (gcV_X8_setPart hbg wm_9_13) rfl rfl rfl kdX8_setPart ⟨Nat.le_of_ble_eq_true rfl, Nat.le_of_ble_eq_true rfl⟩) (w1 := []) (w2 := []) (w' := wX8 cy a0 a1 a2 a3 a4 a5 a6 st_74 gr_54 hi gh rc tx tl rk tb_71 tk_72 at_ ltr on_ tw th nu) (List.append_nil _) (List.append_nil _) hP hK hD hN hS hA (q0 := 0) rfl rfl rfl rfl hl rfl (Nat.le_of_ble_eq_true rfl) dX8_passesDay_48 ⟨Nat.zero_le _, Nat.zero_le _⟩ (fun H locs hP hD hS => ?_)
        refine lv_aload_n hx hb dX8_passesDay_51 rfl (lv_at hl 1 rfl) ?_
        refine x_get hx hb (C := RX8) (T := TX8) (N := 16) (ci := 8) hts iX8 hown hK hP 0 rfl rfl 1 (by decide) wd2 rfl (.ref a2) rfl dX8_passesDay_52 ?_
        refine lv_iload_n hx hb dX8_passesDay_55 rfl (lv_at hl 3 rfl) ?_
        refine lv_aload_n hx hb dX8_passesDay_56 rfl (lv_at hl 1 rfl) ?_
        refine x_get hx hb (C := RX8) (T := TX8) (N := 16) (ci := 8) hts iX8 hown hK hP 0 rfl rfl 9 (by decide) wd3 rfl (.long tk_72) rfl dX8_passesDay_57 ?_
        obtain ⟨hi_76, hf⟩ := ckI_el hf
        obtain ⟨gr_77, egr_77, hf⟩ := lt_el hf
        refine x_last hx hb hK hP hD hS 2 rfl hi_76 egr_77 (w' := wX8 cy a0 a1 a2 a3 a4 a5 a6 st_74 gr_77 hi gh rc tx tl rk tb_71 tk_72 at_ ltr on_ tw th nu) rfl dX8_passesDay_60 (fun H locs hP hD hS => ?_)
        refine lv_iload hx hb dX8_passesDay_61 (lv_at hl 0 rfl) ?_
        refine lv_if_le (tgt := 87) hx hb dX8_passesDay_63 (by decide) (fun c_78 => ?_) (fun c_78 => ?_)
        · have hf := x_t c_78 hf
          refine lv_iinc (v := (z3_58 + 1)) (lv' := [(3, .int (z3_58 + 1)), (4, .int r_70), (0, .ref a0), (1, .long z1_57)]) hx hb dX8_passesDay_87 hl (k := 3) rfl rfl (by decide) rfl (fun ls hl => ?_)
          refine lv_goto (tgt := 14) hx hb dX8_passesDay_90 (by decide) ?_
          exact ih st_74 gr_77 tb_71 tk_72 z1_57 (z3_58 + 1) _ _ _ _ hf hP hD hS (lv_sub hl [2, 3, 0] rfl) hr_14 kx_14
        · have hf := x_f c_78 hf
          refine lv_aload_n hx hb dX8_passesDay_66 rfl (lv_at hl 1 rfl) ?_
          refine lv_iconst (v := 5) hx hb dX8_passesDay_67 (by decide) ?_
          refine lv_aload_n hx hb dX8_passesDay_68 rfl (lv_at hl 1 rfl) ?_
          refine lv_iload_n hx hb dX8_passesDay_69 rfl (lv_at hl 3 rfl) ?_
          refine lv_iconst (v := 0) hx hb dX8_passesDay_70 (by decide) ?_
          obtain ⟨r_79, h_80, hf⟩ := bd1_el hf
          refine x_callVi (As := [.int z3_58, .int 0]) (rest := [.int 5, .ref a0]) ⟨hx, hb, hml, hown, hts⟩ (mX8_part l D cy a0 a1 a2 a3 a4 a5 a6 st_74 gr_77 hi gh rc tx tl rk tb_71 tk_72 at_ ltr on_ tw th nu z3_58 0 r_79 h_80) (cwV 2 hts (gcV_X8_part hbg wm_9_9) rfl rfl rfl kdX8_part ⟨Nat.le_of_ble_eq_true rfl, Nat.le_of_ble_eq_true rfl⟩) (w1 := []) (w2 := []) (w' := wX8 cy a0 a1 a2 a3 a4 a5 a6 st_74 gr_77 hi gh rc tx tl rk tb_71 tk_72 at_ ltr on_ tw th nu) (List.append_nil _) (List.append_nil _) hP hK hD hN hS hA (q0 := 0) rfl rfl rfl rfl hl rfl (Nat.le_of_ble_eq_true rfl) dX8_passesDay_71 ⟨Nat.zero_le _, Nat.zero_le _⟩ (fun H locs hP hD hS => ?_)
          refine lv_iconst (v := 0) hx hb dX8_passesDay_74 (by decide) ?_
          refine lv_iload hx hb dX8_passesDay_75 (lv_at hl 0 rfl) ?_
          obtain ⟨r_81, st_82, h_83, hf⟩ := bd2_el hf
          refine x_callVi (As := [.int 5, .int r_79, .int 0, .int r_70]) (rest := []) ⟨hx, hb, hml, hown, hts⟩ (mX8_enters l D cy a0 a1 a2 a3 a4 a5 a6 st_74 gr_77 hi gh rc tx tl rk tb_71 tk_72 at_ ltr on_ tw th nu 5 r_79 0 r_70 r_81 st_82 h_83) (cwV 4 hts (gcV_X8_enters hbg wm_13_21) rfl rfl rfl kdX8_enters ⟨Nat.le_of_ble_eq_true rfl, Nat.le_of_ble_eq_true rfl⟩) (w1 := []) (w2 := []) (w' := wX8 cy a0 a1 a2 a3 a4 a5 a6 st_82 gr_77 hi gh rc tx tl rk tb_71 tk_72 at_ ltr on_ tw th nu) (List.append_nil _) (List.append_nil _) hP hK hD hN hS hA (q0 := 0) rfl rfl rfl rfl hl rfl (Nat.le_of_ble_eq_true rfl) dX8_passesDay_77 ⟨Nat.zero_le _, Nat.zero_le _⟩ (fun H locs hP hD hS => ?_)
          refine lv_pop hx hb dX8_passesDay_80 rfl ?_
          refine lv_lload_n hx hb dX8_passesDay_81 rfl (lv_at hl 2 rfl) ?_
          refine lv_iload hx hb dX8_passesDay_82 (lv_at hl 0 rfl) ?_
          refine lv_i2l (v := r_70.toInt64) hx hb dX8_passesDay_84 rfl ?_
          refine lv_ladd hx hb dX8_passesDay_85 ?_
          obtain ⟨x1_84, ex1_84, hf⟩ := lt_el hf
          refine x_topl ex1_84 ?_
          refine lv_lstore_n (lv' := [(1, .long x1_84), (4, .int r_70), (0, .ref a0), (3, .int z3_58)]) hx hb dX8_passesDay_86 rfl hl (by decide) rfl (fun ls hl => ?_)
          refine lv_iinc (v := (z3_58 + 1)) (lv' := [(3, .int (z3_58 + 1)), (1, .long x1_84), (4, .int r_70), (0, .ref a0)]) hx hb dX8_passesDay_87 hl (k := 3) rfl rfl (by decide) rfl (fun ls hl => ?_)
          refine lv_goto (tgt := 14) hx hb dX8_passesDay_90 (by decide) ?_
          exact ih st_82 gr_77 tb_71 tk_72 x1_84 (z3_58 + 1) _ _ _ _ hf hP hD hS (lv_sub hl [3, 1, 0] rfl) hr_14 kx_14
  obtain ⟨st_25, gr_26, tb_27, tk_28, x1_29, h1_14, hf⟩ := bd5_el hf
  refine hL_14 2147483648 st_3 gr tb tk 0 0 _ _ _ _ h1_14 hP hD hS (lv_sub hl [2, 1, 0] rfl) trivial (fun st_259 gr_269 tb_279 tk_289 x1_299 ho H locs ls hP hD hS hl => ?_)
  cases ho
  refine lv_aload_n hx hb dX8_passesDay_93 rfl (lv_at hl 0 rfl) ?_
  refine x_get hx hb (C := RX8) (T := TX8) (N := 16) (ci := 8) hts iX8 hown hK hP 0 rfl rfl 1 (by decide) wd2 rfl (.ref a2) rfl dX8_passesDay_94 ?_
  refine lv_bipush (v := 13) hx hb dX8_passesDay_97 (by decide) ?_
  refine lv_dup2_11 hx hb dX8_passesDay_99 rfl rfl ?_
  obtain ⟨hi_30, hf⟩ := ckI_el hf
  refine va_lald hx hb hK hP 2 2 rfl rfl hi_30 dX8_passesDay_100 ?_
  refine lv_lload_n hx hb dX8_passesDay_101 rfl (lv_at hl 1 rfl) ?_
  refine lv_ladd hx hb dX8_passesDay_102 ?_
  obtain ⟨hi_31, hf⟩ := ckI_el hf
  obtain ⟨gr_32, egr_32, hf⟩ := lt_el hf
  refine x_last hx hb hK hP hD hS 2 rfl hi_31 egr_32 (w' := wX8 cy a0 a1 a2 a3 a4 a5 a6 st_25 gr_32 hi gh rc tx tl rk tb_27 tk_28 at_ ltr on_ tw th nu) rfl dX8_passesDay_103 (fun H locs hP hD hS => ?_)
  refine lv_aload_n hx hb dX8_passesDay_104 rfl (lv_at hl 0 rfl) ?_
  refine x_get hx hb (C := RX8) (T := TX8) (N := 16) (ci := 8) hts iX8 hown hK hP 0 rfl rfl 0 (by decide) wd0 rfl (.ref a1) rfl dX8_passesDay_105 ?_
  refine lv_bipush (v := 6) hx hb dX8_passesDay_108 (by decide) ?_
  obtain ⟨hi_33, hf⟩ := ckI_el hf
  refine va_iald hx hb hK hP 1 1 rfl rfl hi_33 dX8_passesDay_110 ?_
  refine lv_iconst (v := 1) hx hb dX8_passesDay_111 (by decide) ?_
  refine lv_isub hx hb dX8_passesDay_112 ?_
  obtain ⟨x3_34, ex3_34, hf⟩ := lt_el hf
  refine x_topi ex3_34 ?_
  refine lv_istore_n (lv' := [(3, .int x3_34), (0, .ref a0), (1, .long x1_29)]) hx hb dX8_passesDay_113 rfl hl (by decide) rfl (fun ls hl => ?_)
  have hL_114 : ∀ (n : Nat) (st_43 : Nat → Int32) (z3_44 : Int32) (o : (Nat → Int32)) (H : Heap) (locs : List Loc) (ls : Array Slot), fX8_passesDay_L114 x1_29 n st_43 z3_44 = some o → va_P D vwCl (wX8 cy a0 a1 a2 a3 a4 a5 a6 st_43 gr_32 hi gh rc tx tl rk tb_27 tk_28 at_ ltr on_ tw th nu) H → va_D A (wX8 cy a0 a1 a2 a3 a4 a5 a6 st_43 gr_32 hi gh rc tx tl rk tb_27 tk_28 at_ ltr on_ tw th nu) → va_S A s.heap H locs → lv_has ls 5 [(0, .ref a0), (1, .long x1_29), (3, .int z3_44)] → True → ((∀ (st_45 : Nat → Int32) , o = st_45 → ∀ (H : Heap) (locs : List Loc) (ls : Array Slot), va_P D vwCl (wX8 cy a0 a1 a2 a3 a4 a5 a6 st_45 gr_32 hi gh rc tx tl rk tb_27 tk_28 at_ ltr on_ tw th nu) H → va_D A (wX8 cy a0 a1 a2 a3 a4 a5 a6 st_45 gr_32 hi gh rc tx tl rk tb_27 tk_28 at_ ltr on_ tw th nu) → va_S A s.heap H locs → lv_has ls 5 [(1, .long x1_29)] → W p l e rmX8_passesDay s m ([.ref a0] : List Value).toArray below meth c H locs 0 0 (MQ below (xQl D cy (wX8 cy a0 a1 a2 a3 a4 a5 a6 st' gr' hi gh rc tx tl rk tb' tk' at_ ltr on_ tw th nu) r A) ([.ref a0] : List Value).toArray s 0 0 A) (F0 m 144 ls []))) → W p l e rmX8_passesDay s m ([.ref a0] : List Value).toArray below meth c H locs 0 0 (MQ below (xQl D cy (wX8 cy a0 a1 a2 a3 a4 a5 a6 st' gr' hi gh rc tx tl rk tb' tk' at_ ltr on_ tw th nu) r A) ([.ref a0] : List Value).toArray s 0 0 A) (F0 m 114 ls []) := by
    intro n
    induction n with
    | zero =>
      intro st_43 z3_44 o_114 H locs ls hf
      rw [fX8_passesDay_L114] at hf
      cases hf
    | succ n ih =>
      intro st_43 z3_44 o_114 H locs ls hf hP hD hS hl hr_114 kx_114
      rw [fX8_passesDay_L114] at hf
      refine lv_iload_n hx hb dX8_passesDay_114 rfl (lv_at hl 2 rfl) ?_
      refine lv_if_lt (tgt := 144) hx hb dX8_passesDay_115 (by decide) (fun c_46 => ?_) (fun c_46 => ?_)
      · have hf := x_t c_46 hf
        exact kx_114 st_43 (Option.some.inj hf).symm _ _ _ hP hD hS (lv_sub hl [1] rfl)
      · have hf := x_f c_46 hf
        refine lv_aload_n hx hb dX8_passesDay_118 rfl (lv_at hl 0 rfl) ?_
        refine x_get hx hb (C := RX8) (T := TX8) (N := 16) (ci := 8) hts iX8 hown hK hP 0 rfl rfl 0 (by decide) wd0 rfl (.ref a1) rfl dX8_passesDay_119 ?_
        refine lv_iconst (v := 0) hx hb dX8_passesDay_122 (by decide) ?_
        obtain ⟨hi_47, hf⟩ := ckI_el hf
        refine va_iald hx hb hK hP 1 1 rfl rfl hi_47 dX8_passesDay_123 ?_
        refine lv_aload_n hx hb dX8_passesDay_124 rfl (lv_at hl 0 rfl) ?_
        refine lv_iload_n hx hb dX8_passesDay_125 rfl (lv_at hl 2 rfl) ?_
        refine lv_iconst (v := 3) hx hb dX8_passesDay_126 (by decide) ?_
        obtain ⟨r_48, h_49, hf⟩ := bd1_el hf
        refine x_callVi (As := [.int z3_44, .int 3]) (rest := [.int (st_43 (0 : Int32).toNatClampNeg)]) ⟨hx, hb, hml, hown, hts⟩ (mX8_holdPart l D cy a0 a1 a2 a3 a4 a5 a6 st_43 gr_32 hi gh rc tx tl rk tb_27 tk_28 at_ ltr on_ tw th nu z3_44 3 r_48 h_49) (cwV 2 hts (gcV_X8_holdPart hbg wm_15_20) rfl rfl rfl kdX8_holdPart ⟨Nat.le_of_ble_eq_true rfl, Nat.le_of_ble_eq_true rfl⟩) (w1 := []) (w2 := []) (w' := wX8 cy a0 a1 a2 a3 a4 a5 a6 st_43 gr_32 hi gh rc tx tl rk tb_27 tk_28 at_ ltr on_ tw th nu) (List.append_nil _) (List.append_nil _) hP hK hD hN hS hA (q0 := 0) rfl rfl rfl rfl hl rfl (Nat.le_of_ble_eq_true rfl) dX8_passesDay_127 ⟨Nat.zero_le _, Nat.zero_le _⟩ (fun H locs hP hD hS => ?_)
        refine lv_icmp_le (tgt := 138) hx hb dX8_passesDay_130 (by decide) (fun c_50 => ?_) (fun c_50 => ?_)
        · have hf := x_t c_50 hf
          refine lv_iinc (v := (z3_44 + (-1))) (lv' := [(3, .int (z3_44 + (-1))), (0, .ref a0), (1, .long x1_29)]) hx hb dX8_passesDay_138 hl (k := 2) rfl rfl (by decide) rfl (fun ls hl => ?_)
          refine lv_goto (tgt := 114) hx hb dX8_passesDay_141 (by decide) ?_
          exact ih st_43 (z3_44 + (-1)) _ _ _ _ hf hP hD hS (lv_sub hl [1, 2, 0] rfl) hr_114 kx_114
        · have hf := x_f c_50 hf
          refine lv_aload_n hx hb dX8_passesDay_133 rfl (lv_at hl 0 rfl) ?_
          refine lv_iload_n hx hb dX8_passesDay_134 rfl (lv_at hl 2 rfl) ?_
          obtain ⟨st_51, h_52, hf⟩ := bd1_el hf
          refine x_callVv (As := [.int z3_44]) (rest := []) ⟨hx, hb, hml, hown, hts⟩ (mX8_endsHold l D cy a0 a1 a2 a3 a4 a5 a6 st_43 gr_32 hi gh rc tx tl rk tb_27 tk_28 at_ ltr on_ tw th nu z3_44 st_51 h_52) (cwV 1 hts (gcV_X8_endsHold hbg wm_18_22) rfl rfl rfl kdX8_endsHold ⟨Nat.le_of_ble_eq_true rfl, Nat.le_of_ble_eq_true rfl⟩) (w1 := []) (w2 := []) (w' := wX8 cy a0 a1 a2 a3 a4 a5 a6 st_51 gr_32 hi gh rc tx tl rk tb_27 tk_28 at_ ltr on_ tw th nu) (List.append_nil _) (List.append_nil _) hP hK hD hN hS hA (q0 := 0) rfl rfl rfl rfl hl rfl (Nat.le_of_ble_eq_true rfl) dX8_passesDay_135 ⟨Nat.zero_le _, Nat.zero_le _⟩ (fun H locs hP hD hS => ?_)
          refine lv_iinc (v := (z3_44 + (-1))) (lv' := [(3, .int (z3_44 + (-1))), (0, .ref a0), (1, .long x1_29)]) hx hb dX8_passesDay_138 hl (k := 2) rfl rfl (by decide) rfl (fun ls hl => ?_)
          refine lv_goto (tgt := 114) hx hb dX8_passesDay_141 (by decide) ?_
          exact ih st_51 (z3_44 + (-1)) _ _ _ _ hf hP hD hS (lv_sub hl [1, 2, 0] rfl) hr_114 kx_114
  obtain ⟨st_42, h1_114, hf⟩ := bd1_el hf
  refine hL_114 2147483648 st_25 x3_34 _ _ _ _ h1_114 hP hD hS (lv_sub hl [1, 2, 0] rfl) trivial (fun st_429 ho H locs ls hP hD hS hl => ?_)
  cases ho
  refine lv_lload_n hx hb dX8_passesDay_144 rfl (lv_at hl 0 rfl) ?_
  have hf := Option.some.inj hf
  cases hf
  exact x_lret hx hb hr hlocks hK hP hD hS dX8_passesDay_145
theorem kdX8_whyNotPassed : yX8_whyNotPassed.cls = RX8 ∧ yX8_whyNotPassed.cls ≠ "java/lang/invoke/MethodHandle" ∧ yX8_whyNotPassed.cls ≠ "java/lang/invoke/VarHandle" ∧ (parseMethodDescriptor yX8_whyNotPassed.desc).map (fun d => d.parameters.length) = some 1 := by decide +kernel
def rmX8_whyNotPassed : Room := { frames := 1, cells := 0, slots := 0, locals := 22 }
set_option maxHeartbeats 4000000 in
set_option maxRecDepth 100000 in
theorem mX8_whyNotPassed (l : Launch) (D : va_G) (cy : Nat → ClassId) (a0 a1 a2 a3 a4 a5 a6 : Nat) (st : Nat → Int32) (gr : Nat → Int64) (hi : Nat → Int32) (gh : Nat → Int64) (rc : Int32) (tx : Nat → Int32) (tl : Int32) (rk : Nat → Int32) (tb : Int32) (tk : Int64) (at_ : Int32) (ltr : Int32) (on_ : Int32) (tw : Int32) (th : Int32) (nu : Int32) (p1 : Int32) (r : Int32) (hf : fX8_whyNotPassed st p1 = some r) : xMi l D cy yX8_whyNotPassed aX8_whyNotPassed rmX8_whyNotPassed ([.ref a0, .int p1] : List Value) (wX8 cy a0 a1 a2 a3 a4 a5 a6 st gr hi gh rc tx tl rk tb tk at_ ltr on_ tw th nu) (wX8 cy a0 a1 a2 a3 a4 a5 a6 st gr hi gh rc tx tl rk tb tk at_ ltr on_ tw th nu) r := by
  intro hz
  refine x_start (Qc := xQi D cy _ r) (cc := cX8_whyNotPassed) (maxL := 2) (ret := (some .int)) (by decide) rfl (Nat.le_of_ble_eq_true rfl) (lv := [(0, .ref a0), (1, .int p1)]) rfl ?_
  intro p e s m below meth c ls A hx hb hr hml hown hts hlocks hK hP hD hS hA hN hl
  have hown : s.vm.findClass RX8 = some m.cls := hown
  have hbg : ∀ w ∈ wsL_law, w ∈ aX8_whyNotPassed := fun w h => List.mem_cons_of_mem _ h
  have wd0 : (Cond.fieldLink RX8 7 "ClientMoneyBookModel" "state" "[I").before ([.ref a0, .int p1] : List Value).toArray s = true := hts _ (List.mem_cons_of_mem _ wm_4_9)
  have iX8 : ∀ w ∈ u_ws RX8 TX8 16, w ∈ aX8_whyNotPassed := fun w h => List.mem_cons_of_mem _ (inlX8 w h)
  unfold fX8_whyNotPassed at hf
  refine lv_iload_n hx hb dX8_whyNotPassed_0 rfl (lv_at hl 1 rfl) ?_
  refine lv_iconst (v := 1) hx hb dX8_whyNotPassed_1 (by decide) ?_
  refine lv_sipush (v := 400) hx hb dX8_whyNotPassed_2 (by decide) ?_
  obtain ⟨r_1, h_2, hf⟩ := bd1_el hf
  refine x_callSi (As := [.int p1, .int 1, .int 400]) (rest := []) ⟨hx, hb, hml, hown, hts⟩ (mX8_within l D cy   p1 1 400 r_1 h_2) (va_cwS 3 hts (gcS_X8_within hbg wm_7_0) rfl rfl rfl kdX8_within ⟨Nat.le_of_ble_eq_true rfl, Nat.le_of_ble_eq_true rfl⟩) (w1 := []) (w2 := wX8 cy a0 a1 a2 a3 a4 a5 a6 st gr hi gh rc tx tl rk tb tk at_ ltr on_ tw th nu) (w' := wX8 cy a0 a1 a2 a3 a4 a5 a6 st gr hi gh rc tx tl rk tb tk at_ ltr on_ tw th nu) rfl rfl hP hK hD hN hS hA rfl hl rfl (Nat.le_of_ble_eq_true rfl) dX8_whyNotPassed_5 ⟨Nat.zero_le _, Nat.zero_le _⟩ (fun H locs hP hD hS => ?_)
  refine lv_if_ne (tgt := 16) hx hb dX8_whyNotPassed_8 (by decide) (fun c_3 => ?_) (fun c_3 => ?_)
  · have hf := x_f c_3 hf
    refine lv_aload_n hx hb dX8_whyNotPassed_16 rfl (lv_at hl 0 rfl) ?_
    refine x_get hx hb (C := RX8) (T := TX8) (N := 16) (ci := 8) hts iX8 hown hK hP 0 rfl rfl 0 (by decide) wd0 rfl (.ref a1) rfl dX8_whyNotPassed_17 ?_
    refine lv_iconst (v := 0) hx hb dX8_whyNotPassed_20 (by decide) ?_
    obtain ⟨hi_4, hf⟩ := ckI_el hf
    refine va_iald hx hb hK hP 1 1 rfl rfl hi_4 dX8_whyNotPassed_21 ?_
    refine lv_iload_n hx hb dX8_whyNotPassed_22 rfl (lv_at hl 1 rfl) ?_
    refine lv_iadd hx hb dX8_whyNotPassed_23 ?_
    refine lv_sipush (v := 9999) hx hb dX8_whyNotPassed_24 (by decide) ?_
    refine lv_icmp_le (tgt := 35) hx hb dX8_whyNotPassed_27 (by decide) (fun c_5 => ?_) (fun c_5 => ?_)
    · have hf := x_t c_5 hf
      refine lv_iconst (v := 0) hx hb dX8_whyNotPassed_35 (by decide) ?_
      have hf := Option.some.inj hf
      cases hf
      exact x_iret hx hb hr hlocks hK hP hD hS dX8_whyNotPassed_36
    · have hf := x_f c_5 hf
      refine lv_bipush (v := (-4)) hx hb dX8_whyNotPassed_30 (by decide) ?_
      refine lv_goto (tgt := 36) hx hb dX8_whyNotPassed_32 (by decide) ?_
      have hf := Option.some.inj hf
      cases hf
      exact x_iret hx hb hr hlocks hK hP hD hS dX8_whyNotPassed_36
  · have hf := x_t c_3 hf
    refine lv_bipush (v := (-2)) hx hb dX8_whyNotPassed_11 (by decide) ?_
    refine lv_goto (tgt := 36) hx hb dX8_whyNotPassed_13 (by decide) ?_
    have hf := Option.some.inj hf
    cases hf
    exact x_iret hx hb hr hlocks hK hP hD hS dX8_whyNotPassed_36
theorem kdX8_passes : yX8_passes.cls = RX8 ∧ yX8_passes.cls ≠ "java/lang/invoke/MethodHandle" ∧ yX8_passes.cls ≠ "java/lang/invoke/VarHandle" ∧ (parseMethodDescriptor yX8_passes.desc).map (fun d => d.parameters.length) = some 1 := by decide +kernel
def rmX8_passes : Room := { frames := 3, cells := 0, slots := 0, locals := 75 }
set_option maxHeartbeats 4000000 in
set_option maxRecDepth 100000 in
theorem mX8_passes (l : Launch) (D : va_G) (cy : Nat → ClassId) (a0 a1 a2 a3 a4 a5 a6 : Nat) (st : Nat → Int32) (gr : Nat → Int64) (hi : Nat → Int32) (gh : Nat → Int64) (rc : Int32) (tx : Nat → Int32) (tl : Int32) (rk : Nat → Int32) (tb : Int32) (tk : Int64) (at_ : Int32) (ltr : Int32) (on_ : Int32) (tw : Int32) (th : Int32) (nu : Int32) (p1 : Int32) (r : Int64) (st' : Nat → Int32) (gr' : Nat → Int64) (tb' : Int32) (tk' : Int64) (hf : fX8_passes st gr tb tk p1 = some (r, st', gr', tb', tk')) : xMl l D cy yX8_passes aX8_passes rmX8_passes ([.ref a0, .int p1] : List Value) (wX8 cy a0 a1 a2 a3 a4 a5 a6 st gr hi gh rc tx tl rk tb tk at_ ltr on_ tw th nu) (wX8 cy a0 a1 a2 a3 a4 a5 a6 st' gr' hi gh rc tx tl rk tb' tk' at_ ltr on_ tw th nu) r := by
  intro hz
  refine x_start (Qc := xQl D cy _ r) (cc := cX8_passes) (maxL := 5) (ret := (some .long)) (by decide) rfl (Nat.le_of_ble_eq_true rfl) (lv := [(0, .ref a0), (1, .int p1)]) rfl ?_
  intro p e s m below meth c ls A hx hb hr hml hown hts hlocks hK hP hD hS hA hN hl
  have hown : s.vm.findClass RX8 = some m.cls := hown
  have hbg : ∀ w ∈ wsL_law, w ∈ aX8_passes := fun w h => List.mem_cons_of_mem _ h
  unfold fX8_passes at hf
  refine lv_lconst (v := 0) hx hb dX8_passes_0 (by decide) ?_
  refine lv_lstore_n (lv' := [(2, .long 0), (0, .ref a0), (1, .int p1)]) hx hb dX8_passes_1 rfl hl (by decide) rfl (fun ls hl => ?_)
  refine lv_iconst (v := 0) hx hb dX8_passes_2 (by decide) ?_
  refine lv_istore (lv' := [(4, .int 0), (2, .long 0), (0, .ref a0), (1, .int p1)]) hx hb dX8_passes_3 hl (by decide) rfl (fun ls hl => ?_)
  have hL_5 : ∀ (n : Nat) (st_14 : Nat → Int32) (gr_15 : Nat → Int64) (tb_16 : Int32) (tk_17 : Int64) (z2_18 : Int64) (z4_19 : Int32) (o : (Nat → Int32) × (Nat → Int64) × Int32 × Int64 × Int64) (H : Heap) (locs : List Loc) (ls : Array Slot), fX8_passes_L5 p1 n st_14 gr_15 tb_16 tk_17 z2_18 z4_19 = some o → va_P D vwCl (wX8 cy a0 a1 a2 a3 a4 a5 a6 st_14 gr_15 hi gh rc tx tl rk tb_16 tk_17 at_ ltr on_ tw th nu) H → va_D A (wX8 cy a0 a1 a2 a3 a4 a5 a6 st_14 gr_15 hi gh rc tx tl rk tb_16 tk_17 at_ ltr on_ tw th nu) → va_S A s.heap H locs → lv_has ls 5 [(0, .ref a0), (1, .int p1), (2, .long z2_18), (4, .int z4_19)] → True → ((∀ (st_20 : Nat → Int32) (gr_21 : Nat → Int64) (tb_22 : Int32) (tk_23 : Int64) (x2_24 : Int64) , o = (st_20, gr_21, tb_22, tk_23, x2_24) → ∀ (H : Heap) (locs : List Loc) (ls : Array Slot), va_P D vwCl (wX8 cy a0 a1 a2 a3 a4 a5 a6 st_20 gr_21 hi gh rc tx tl rk tb_22 tk_23 at_ ltr on_ tw th nu) H → va_D A (wX8 cy a0 a1 a2 a3 a4 a5 a6 st_20 gr_21 hi gh rc tx tl rk tb_22 tk_23 at_ ltr on_ tw th nu) → va_S A s.heap H locs → lv_has ls 5 [(2, .long x2_24)] → W p l e rmX8_passes s m ([.ref a0, .int p1] : List Value).toArray below meth c H locs 0 0 (MQ below (xQl D cy (wX8 cy a0 a1 a2 a3 a4 a5 a6 st' gr' hi gh rc tx tl rk tb' tk' at_ ltr on_ tw th nu) r A) ([.ref a0, .int p1] : List Value).toArray s 0 0 A) (F0 m 24 ls []))) → W p l e rmX8_passes s m ([.ref a0, .int p1] : List Value).toArray below meth c H locs 0 0 (MQ below (xQl D cy (wX8 cy a0 a1 a2 a3 a4 a5 a6 st' gr' hi gh rc tx tl rk tb' tk' at_ ltr on_ tw th nu) r A) ([.ref a0, .int p1] : List Value).toArray s 0 0 A) (F0 m 5 ls []) := by
    intro n
    induction n with
    | zero =>
      intro st_14 gr_15 tb_16 tk_17 z2_18 z4_19 o_5 H locs ls hf
      rw [fX8_passes_L5] at hf
      cases hf
    | succ n ih =>
      intro st_14 gr_15 tb_16 tk_17 z2_18 z4_19 o_5 H locs ls hf hP hD hS hl hr_5 kx_5
      rw [fX8_passes_L5] at hf
      refine lv_iload hx hb dX8_passes_5 (lv_at hl 3 rfl) ?_
      refine lv_iload_n hx hb dX8_passes_7 rfl (lv_at hl 1 rfl) ?_
      refine lv_icmp_ge (tgt := 24) hx hb dX8_passes_8 (by decide) (fun c_25 => ?_) (fun c_25 => ?_)
      · have hf := x_t c_25 hf
        exact kx_5 st_14 gr_15 tb_16 tk_17 z2_18 (Option.some.inj hf).symm _ _ _ hP hD hS (lv_sub hl [2] rfl)
      · have hf := x_f c_25 hf
        refine lv_lload_n hx hb dX8_passes_11 rfl (lv_at hl 2 rfl) ?_
        refine lv_aload_n hx hb dX8_passes_12 rfl (lv_at hl 0 rfl) ?_
        obtain ⟨r_26, st_27, gr_28, tb_29, tk_30, h_31, hf⟩ := bd5_el hf
        refine x_callVl (As := []) (rest := [.long z2_18]) ⟨hx, hb, hml, hown, hts⟩ (mX8_passesDay l D cy a0 a1 a2 a3 a4 a5 a6 st_14 gr_15 hi gh rc tx tl rk tb_16 tk_17 at_ ltr on_ tw th nu  r_26 st_27 gr_28 tb_29 tk_30 h_31) (cwV 0 hts (gcV_X8_passesDay hbg wm_23_13) rfl rfl rfl kdX8_passesDay ⟨Nat.le_of_ble_eq_true rfl, Nat.le_of_ble_eq_true rfl⟩) (w1 := []) (w2 := []) (w' := wX8 cy a0 a1 a2 a3 a4 a5 a6 st_27 gr_28 hi gh rc tx tl rk tb_29 tk_30 at_ ltr on_ tw th nu) (List.append_nil _) (List.append_nil _) hP hK hD hN hS hA (q0 := 0) rfl rfl rfl rfl hl rfl (Nat.le_of_ble_eq_true rfl) dX8_passes_13 ⟨Nat.zero_le _, Nat.zero_le _⟩ (fun H locs hP hD hS => ?_)
        refine lv_ladd hx hb dX8_passes_16 ?_
        obtain ⟨x2_32, ex2_32, hf⟩ := lt_el hf
        refine x_topl ex2_32 ?_
        refine lv_lstore_n (lv' := [(2, .long x2_32), (0, .ref a0), (1, .int p1), (4, .int z4_19)]) hx hb dX8_passes_17 rfl hl (by decide) rfl (fun ls hl => ?_)
        refine lv_iinc (v := (z4_19 + 1)) (lv' := [(4, .int (z4_19 + 1)), (2, .long x2_32), (0, .ref a0), (1, .int p1)]) hx hb dX8_passes_18 hl (k := 3) rfl rfl (by decide) rfl (fun ls hl => ?_)
        refine lv_goto (tgt := 5) hx hb dX8_passes_21 (by decide) ?_
        exact ih st_27 gr_28 tb_29 tk_30 x2_32 (z4_19 + 1) _ _ _ _ hf hP hD hS (lv_sub hl [2, 3, 1, 0] rfl) hr_5 kx_5
  obtain ⟨st_9, gr_10, tb_11, tk_12, x2_13, h1_5, hf⟩ := bd5_el hf
  refine hL_5 2147483648 st gr tb tk 0 0 _ _ _ _ h1_5 hP hD hS (lv_sub hl [2, 3, 1, 0] rfl) trivial (fun st_99 gr_109 tb_119 tk_129 x2_139 ho H locs ls hP hD hS hl => ?_)
  cases ho
  refine lv_lload_n hx hb dX8_passes_24 rfl (lv_at hl 0 rfl) ?_
  have hf := Option.some.inj hf
  cases hf
  exact x_lret hx hb hr hlocks hK hP hD hS dX8_passes_25
theorem kdX8_pass : yX8_pass.cls = RX8 ∧ yX8_pass.cls ≠ "java/lang/invoke/MethodHandle" ∧ yX8_pass.cls ≠ "java/lang/invoke/VarHandle" ∧ (parseMethodDescriptor yX8_pass.desc).map (fun d => d.parameters.length) = some 1 := by decide +kernel
def rmX8_pass : Room := { frames := 4, cells := 0, slots := 0, locals := 99 }
set_option maxHeartbeats 4000000 in
set_option maxRecDepth 100000 in
theorem mX8_pass (l : Launch) (D : va_G) (cy : Nat → ClassId) (a0 a1 a2 a3 a4 a5 a6 : Nat) (st : Nat → Int32) (gr : Nat → Int64) (hi : Nat → Int32) (gh : Nat → Int64) (rc : Int32) (tx : Nat → Int32) (tl : Int32) (rk : Nat → Int32) (tb : Int32) (tk : Int64) (at_ : Int32) (ltr : Int32) (on_ : Int32) (tw : Int32) (th : Int32) (nu : Int32) (p1 : Int32) (r : Int64) (st' : Nat → Int32) (gr' : Nat → Int64) (hi' : Nat → Int32) (gh' : Nat → Int64) (rc' : Int32) (tb' : Int32) (tk' : Int64) (hf : fX8_pass st gr hi gh rc tb tk p1 = some (r, st', gr', hi', gh', rc', tb', tk')) : xMl l D cy yX8_pass aX8_pass rmX8_pass ([.ref a0, .int p1] : List Value) (wX8 cy a0 a1 a2 a3 a4 a5 a6 st gr hi gh rc tx tl rk tb tk at_ ltr on_ tw th nu) (wX8 cy a0 a1 a2 a3 a4 a5 a6 st' gr' hi' gh' rc' tx tl rk tb' tk' at_ ltr on_ tw th nu) r := by
  intro hz
  refine x_start (Qc := xQl D cy _ r) (cc := cX8_pass) (maxL := 3) (ret := (some .long)) (by decide) rfl (Nat.le_of_ble_eq_true rfl) (lv := [(0, .ref a0), (1, .int p1)]) rfl ?_
  intro p e s m below meth c ls A hx hb hr hml hown hts hlocks hK hP hD hS hA hN hl
  have hown : s.vm.findClass RX8 = some m.cls := hown
  have hbg : ∀ w ∈ wsL_law, w ∈ aX8_pass := fun w h => List.mem_cons_of_mem _ h
  unfold fX8_pass at hf
  refine lv_aload_n hx hb dX8_pass_0 rfl (lv_at hl 0 rfl) ?_
  refine lv_iload_n hx hb dX8_pass_1 rfl (lv_at hl 1 rfl) ?_
  obtain ⟨r_1, h_2, hf⟩ := bd1_el hf
  refine x_callVi (As := [.int p1]) (rest := []) ⟨hx, hb, hml, hown, hts⟩ (mX8_whyNotPassed l D cy a0 a1 a2 a3 a4 a5 a6 st gr hi gh rc tx tl rk tb tk at_ ltr on_ tw th nu p1 r_1 h_2) (cwV 1 hts (gcV_X8_whyNotPassed hbg wm_23_5) rfl rfl rfl kdX8_whyNotPassed ⟨Nat.le_of_ble_eq_true rfl, Nat.le_of_ble_eq_true rfl⟩) (w1 := []) (w2 := []) (w' := wX8 cy a0 a1 a2 a3 a4 a5 a6 st gr hi gh rc tx tl rk tb tk at_ ltr on_ tw th nu) (List.append_nil _) (List.append_nil _) hP hK hD hN hS hA (q0 := 0) rfl rfl rfl rfl hl rfl (Nat.le_of_ble_eq_true rfl) dX8_pass_2 ⟨Nat.zero_le _, Nat.zero_le _⟩ (fun H locs hP hD hS => ?_)
  refine lv_istore_n (lv' := [(2, .int r_1), (0, .ref a0), (1, .int p1)]) hx hb dX8_pass_5 rfl hl (by decide) rfl (fun ls hl => ?_)
  refine lv_iload_n hx hb dX8_pass_6 rfl (lv_at hl 0 rfl) ?_
  refine lv_if_ge (tgt := 13) hx hb dX8_pass_7 (by decide) (fun c_3 => ?_) (fun c_3 => ?_)
  · have hf := x_t c_3 hf
    refine lv_aload_n hx hb dX8_pass_13 rfl (lv_at hl 1 rfl) ?_
    obtain ⟨hi_4, gh_5, rc_6, h_7, hf⟩ := bd3_el hf
    refine x_callVv (As := []) (rest := []) ⟨hx, hb, hml, hown, hts⟩ (mX8_record l D cy a0 a1 a2 a3 a4 a5 a6 st gr hi gh rc tx tl rk tb tk at_ ltr on_ tw th nu  hi_4 gh_5 rc_6 h_7) (cwV 0 hts (gcV_X8_record hbg wm_7_3) rfl rfl rfl kdX8_record ⟨Nat.le_of_ble_eq_true rfl, Nat.le_of_ble_eq_true rfl⟩) (w1 := []) (w2 := []) (w' := wX8 cy a0 a1 a2 a3 a4 a5 a6 st gr hi_4 gh_5 rc_6 tx tl rk tb tk at_ ltr on_ tw th nu) (List.append_nil _) (List.append_nil _) hP hK hD hN hS hA (q0 := 0) rfl rfl rfl rfl hl rfl (Nat.le_of_ble_eq_true rfl) dX8_pass_14 ⟨Nat.zero_le _, Nat.zero_le _⟩ (fun H locs hP hD hS => ?_)
    refine lv_aload_n hx hb dX8_pass_17 rfl (lv_at hl 1 rfl) ?_
    refine lv_iload_n hx hb dX8_pass_18 rfl (lv_at hl 2 rfl) ?_
    obtain ⟨r_8, st_9, gr_10, tb_11, tk_12, h_13, hf⟩ := bd5_el hf
    refine x_callVl (As := [.int p1]) (rest := []) ⟨hx, hb, hml, hown, hts⟩ (mX8_passes l D cy a0 a1 a2 a3 a4 a5 a6 st gr hi_4 gh_5 rc_6 tx tl rk tb tk at_ ltr on_ tw th nu p1 r_8 st_9 gr_10 tb_11 tk_12 h_13) (cwV 1 hts (gcV_X8_passes hbg wm_23_9) rfl rfl rfl kdX8_passes ⟨Nat.le_of_ble_eq_true rfl, Nat.le_of_ble_eq_true rfl⟩) (w1 := []) (w2 := []) (w' := wX8 cy a0 a1 a2 a3 a4 a5 a6 st_9 gr_10 hi_4 gh_5 rc_6 tx tl rk tb_11 tk_12 at_ ltr on_ tw th nu) (List.append_nil _) (List.append_nil _) hP hK hD hN hS hA (q0 := 0) rfl rfl rfl rfl hl rfl (Nat.le_of_ble_eq_true rfl) dX8_pass_19 ⟨Nat.zero_le _, Nat.zero_le _⟩ (fun H locs hP hD hS => ?_)
    have hf := Option.some.inj hf
    cases hf
    exact x_lret hx hb hr hlocks hK hP hD hS dX8_pass_22
  · have hf := x_f c_3 hf
    refine lv_iload_n hx hb dX8_pass_10 rfl (lv_at hl 0 rfl) ?_
    refine lv_i2l (v := r_1.toInt64) hx hb dX8_pass_11 rfl ?_
    have hf := Option.some.inj hf
    cases hf
    exact x_lret hx hb hr hlocks hK hP hD hS dX8_pass_12
theorem kdX8_giver : yX8_giver.cls = RX8 ∧ yX8_giver.cls ≠ "java/lang/invoke/MethodHandle" ∧ yX8_giver.cls ≠ "java/lang/invoke/VarHandle" ∧ (parseMethodDescriptor yX8_giver.desc).map (fun d => d.parameters.length) = some 1 := by decide +kernel
def rmX8_giver : Room := { frames := 1, cells := 0, slots := 0, locals := 22 }
set_option maxHeartbeats 4000000 in
set_option maxRecDepth 100000 in
theorem mX8_giver (l : Launch) (D : va_G) (cy : Nat → ClassId) (a0 a1 a2 a3 a4 a5 a6 : Nat) (st : Nat → Int32) (gr : Nat → Int64) (hi : Nat → Int32) (gh : Nat → Int64) (rc : Int32) (tx : Nat → Int32) (tl : Int32) (rk : Nat → Int32) (tb : Int32) (tk : Int64) (at_ : Int32) (ltr : Int32) (on_ : Int32) (tw : Int32) (th : Int32) (nu : Int32) (p1 : Int32) (r : Int32) (hf : fX8_giver st p1 = some r) : xMi l D cy yX8_giver aX8_giver rmX8_giver ([.ref a0, .int p1] : List Value) (wX8 cy a0 a1 a2 a3 a4 a5 a6 st gr hi gh rc tx tl rk tb tk at_ ltr on_ tw th nu) (wX8 cy a0 a1 a2 a3 a4 a5 a6 st gr hi gh rc tx tl rk tb tk at_ ltr on_ tw th nu) r := by
  intro hz
  refine x_start (Qc := xQi D cy _ r) (cc := cX8_giver) (maxL := 3) (ret := (some .int)) (by decide) rfl (Nat.le_of_ble_eq_true rfl) (lv := [(0, .ref a0), (1, .int p1)]) rfl ?_
  intro p e s m below meth c ls A hx hb hr hml hown hts hlocks hK hP hD hS hA hN hl
  have hown : s.vm.findClass RX8 = some m.cls := hown
  have hbg : ∀ w ∈ wsL_law, w ∈ aX8_giver := fun w h => List.mem_cons_of_mem _ h
  unfold fX8_giver at hf
  refine lv_aload_n hx hb dX8_giver_0 rfl (lv_at hl 0 rfl) ?_
  refine lv_iload_n hx hb dX8_giver_1 rfl (lv_at hl 1 rfl) ?_
  refine lv_iconst (v := 1) hx hb dX8_giver_2 (by decide) ?_
  obtain ⟨r_1, h_2, hf⟩ := bd1_el hf
  refine x_callVi (As := [.int p1, .int 1]) (rest := []) ⟨hx, hb, hml, hown, hts⟩ (mX8_entryPart l D cy a0 a1 a2 a3 a4 a5 a6 st gr hi gh rc tx tl rk tb tk at_ ltr on_ tw th nu p1 1 r_1 h_2) (cwV 2 hts (gcV_X8_entryPart hbg wm_25_18) rfl rfl rfl kdX8_entryPart ⟨Nat.le_of_ble_eq_true rfl, Nat.le_of_ble_eq_true rfl⟩) (w1 := []) (w2 := []) (w' := wX8 cy a0 a1 a2 a3 a4 a5 a6 st gr hi gh rc tx tl rk tb tk at_ ltr on_ tw th nu) (List.append_nil _) (List.append_nil _) hP hK hD hN hS hA (q0 := 0) rfl rfl rfl rfl hl rfl (Nat.le_of_ble_eq_true rfl) dX8_giver_3 ⟨Nat.zero_le _, Nat.zero_le _⟩ (fun H locs hP hD hS => ?_)
  refine lv_istore_n (lv' := [(2, .int r_1), (0, .ref a0), (1, .int p1)]) hx hb dX8_giver_6 rfl hl (by decide) rfl (fun ls hl => ?_)
  refine lv_iload_n hx hb dX8_giver_7 rfl (lv_at hl 0 rfl) ?_
  refine lv_iconst (v := 1) hx hb dX8_giver_8 (by decide) ?_
  refine lv_icmp_ne (tgt := 21) hx hb dX8_giver_9 (by decide) (fun c_3 => ?_) (fun c_3 => ?_)
  · have hf := x_f c_3 hf
    refine lv_iload_n hx hb dX8_giver_21 rfl (lv_at hl 0 rfl) ?_
    refine lv_iconst (v := 3) hx hb dX8_giver_22 (by decide) ?_
    refine lv_icmp_ne (tgt := 35) hx hb dX8_giver_23 (by decide) (fun c_4 => ?_) (fun c_4 => ?_)
    · have hf := x_f c_4 hf
      refine lv_iconst (v := 0) hx hb dX8_giver_35 (by decide) ?_
      have hf := Option.some.inj hf
      cases hf
      exact x_iret hx hb hr hlocks hK hP hD hS dX8_giver_36
    · have hf := x_t c_4 hf
      refine lv_aload_n hx hb dX8_giver_26 rfl (lv_at hl 1 rfl) ?_
      refine lv_iload_n hx hb dX8_giver_27 rfl (lv_at hl 2 rfl) ?_
      refine lv_iconst (v := 3) hx hb dX8_giver_28 (by decide) ?_
      obtain ⟨r_5, h_6, hf⟩ := bd1_el hf
      refine x_callVi (As := [.int p1, .int 3]) (rest := []) ⟨hx, hb, hml, hown, hts⟩ (mX8_entryPart l D cy a0 a1 a2 a3 a4 a5 a6 st gr hi gh rc tx tl rk tb tk at_ ltr on_ tw th nu p1 3 r_5 h_6) (cwV 2 hts (gcV_X8_entryPart hbg wm_25_18) rfl rfl rfl kdX8_entryPart ⟨Nat.le_of_ble_eq_true rfl, Nat.le_of_ble_eq_true rfl⟩) (w1 := []) (w2 := []) (w' := wX8 cy a0 a1 a2 a3 a4 a5 a6 st gr hi gh rc tx tl rk tb tk at_ ltr on_ tw th nu) (List.append_nil _) (List.append_nil _) hP hK hD hN hS hA (q0 := 0) rfl rfl rfl rfl hl rfl (Nat.le_of_ble_eq_true rfl) dX8_giver_29 ⟨Nat.zero_le _, Nat.zero_le _⟩ (fun H locs hP hD hS => ?_)
      refine lv_goto (tgt := 36) hx hb dX8_giver_32 (by decide) ?_
      have hf := Option.some.inj hf
      cases hf
      exact x_iret hx hb hr hlocks hK hP hD hS dX8_giver_36
  · have hf := x_t c_3 hf
    refine lv_aload_n hx hb dX8_giver_12 rfl (lv_at hl 1 rfl) ?_
    refine lv_iload_n hx hb dX8_giver_13 rfl (lv_at hl 2 rfl) ?_
    refine lv_iconst (v := 2) hx hb dX8_giver_14 (by decide) ?_
    obtain ⟨r_7, h_8, hf⟩ := bd1_el hf
    refine x_callVi (As := [.int p1, .int 2]) (rest := []) ⟨hx, hb, hml, hown, hts⟩ (mX8_entryPart l D cy a0 a1 a2 a3 a4 a5 a6 st gr hi gh rc tx tl rk tb tk at_ ltr on_ tw th nu p1 2 r_7 h_8) (cwV 2 hts (gcV_X8_entryPart hbg wm_25_18) rfl rfl rfl kdX8_entryPart ⟨Nat.le_of_ble_eq_true rfl, Nat.le_of_ble_eq_true rfl⟩) (w1 := []) (w2 := []) (w' := wX8 cy a0 a1 a2 a3 a4 a5 a6 st gr hi gh rc tx tl rk tb tk at_ ltr on_ tw th nu) (List.append_nil _) (List.append_nil _) hP hK hD hN hS hA (q0 := 0) rfl rfl rfl rfl hl rfl (Nat.le_of_ble_eq_true rfl) dX8_giver_15 ⟨Nat.zero_le _, Nat.zero_le _⟩ (fun H locs hP hD hS => ?_)
    refine lv_goto (tgt := 36) hx hb dX8_giver_18 (by decide) ?_
    have hf := Option.some.inj hf
    cases hf
    exact x_iret hx hb hr hlocks hK hP hD hS dX8_giver_36
theorem kdX8_taker : yX8_taker.cls = RX8 ∧ yX8_taker.cls ≠ "java/lang/invoke/MethodHandle" ∧ yX8_taker.cls ≠ "java/lang/invoke/VarHandle" ∧ (parseMethodDescriptor yX8_taker.desc).map (fun d => d.parameters.length) = some 1 := by decide +kernel
def rmX8_taker : Room := { frames := 1, cells := 0, slots := 0, locals := 22 }
set_option maxHeartbeats 4000000 in
set_option maxRecDepth 100000 in
theorem mX8_taker (l : Launch) (D : va_G) (cy : Nat → ClassId) (a0 a1 a2 a3 a4 a5 a6 : Nat) (st : Nat → Int32) (gr : Nat → Int64) (hi : Nat → Int32) (gh : Nat → Int64) (rc : Int32) (tx : Nat → Int32) (tl : Int32) (rk : Nat → Int32) (tb : Int32) (tk : Int64) (at_ : Int32) (ltr : Int32) (on_ : Int32) (tw : Int32) (th : Int32) (nu : Int32) (p1 : Int32) (r : Int32) (hf : fX8_taker st p1 = some r) : xMi l D cy yX8_taker aX8_taker rmX8_taker ([.ref a0, .int p1] : List Value) (wX8 cy a0 a1 a2 a3 a4 a5 a6 st gr hi gh rc tx tl rk tb tk at_ ltr on_ tw th nu) (wX8 cy a0 a1 a2 a3 a4 a5 a6 st gr hi gh rc tx tl rk tb tk at_ ltr on_ tw th nu) r := by
  intro hz
  refine x_start (Qc := xQi D cy _ r) (cc := cX8_taker) (maxL := 2) (ret := (some .int)) (by decide) rfl (Nat.le_of_ble_eq_true rfl) (lv := [(0, .ref a0), (1, .int p1)]) rfl ?_
  intro p e s m below meth c ls A hx hb hr hml hown hts hlocks hK hP hD hS hA hN hl
  have hown : s.vm.findClass RX8 = some m.cls := hown
  have hbg : ∀ w ∈ wsL_law, w ∈ aX8_taker := fun w h => List.mem_cons_of_mem _ h
  unfold fX8_taker at hf
  refine lv_aload_n hx hb dX8_taker_0 rfl (lv_at hl 0 rfl) ?_
  refine lv_iload_n hx hb dX8_taker_1 rfl (lv_at hl 1 rfl) ?_
  refine lv_iconst (v := 1) hx hb dX8_taker_2 (by decide) ?_
  obtain ⟨r_1, h_2, hf⟩ := bd1_el hf
  refine x_callVi (As := [.int p1, .int 1]) (rest := []) ⟨hx, hb, hml, hown, hts⟩ (mX8_entryPart l D cy a0 a1 a2 a3 a4 a5 a6 st gr hi gh rc tx tl rk tb tk at_ ltr on_ tw th nu p1 1 r_1 h_2) (cwV 2 hts (gcV_X8_entryPart hbg wm_25_18) rfl rfl rfl kdX8_entryPart ⟨Nat.le_of_ble_eq_true rfl, Nat.le_of_ble_eq_true rfl⟩) (w1 := []) (w2 := []) (w' := wX8 cy a0 a1 a2 a3 a4 a5 a6 st gr hi gh rc tx tl rk tb tk at_ ltr on_ tw th nu) (List.append_nil _) (List.append_nil _) hP hK hD hN hS hA (q0 := 0) rfl rfl rfl rfl hl rfl (Nat.le_of_ble_eq_true rfl) dX8_taker_3 ⟨Nat.zero_le _, Nat.zero_le _⟩ (fun H locs hP hD hS => ?_)
  refine lv_iconst (v := 1) hx hb dX8_taker_6 (by decide) ?_
  refine lv_icmp_ne (tgt := 14) hx hb dX8_taker_7 (by decide) (fun c_3 => ?_) (fun c_3 => ?_)
  · have hf := x_f c_3 hf
    refine lv_aload_n hx hb dX8_taker_14 rfl (lv_at hl 0 rfl) ?_
    refine lv_iload_n hx hb dX8_taker_15 rfl (lv_at hl 1 rfl) ?_
    refine lv_iconst (v := 2) hx hb dX8_taker_16 (by decide) ?_
    obtain ⟨r_4, h_5, hf⟩ := bd1_el hf
    refine x_callVi (As := [.int p1, .int 2]) (rest := []) ⟨hx, hb, hml, hown, hts⟩ (mX8_entryPart l D cy a0 a1 a2 a3 a4 a5 a6 st gr hi gh rc tx tl rk tb tk at_ ltr on_ tw th nu p1 2 r_4 h_5) (cwV 2 hts (gcV_X8_entryPart hbg wm_25_18) rfl rfl rfl kdX8_entryPart ⟨Nat.le_of_ble_eq_true rfl, Nat.le_of_ble_eq_true rfl⟩) (w1 := []) (w2 := []) (w' := wX8 cy a0 a1 a2 a3 a4 a5 a6 st gr hi gh rc tx tl rk tb tk at_ ltr on_ tw th nu) (List.append_nil _) (List.append_nil _) hP hK hD hN hS hA (q0 := 0) rfl rfl rfl rfl hl rfl (Nat.le_of_ble_eq_true rfl) dX8_taker_17 ⟨Nat.zero_le _, Nat.zero_le _⟩ (fun H locs hP hD hS => ?_)
    have hf := Option.some.inj hf
    cases hf
    exact x_iret hx hb hr hlocks hK hP hD hS dX8_taker_20
  · have hf := x_t c_3 hf
    refine lv_iconst (v := 0) hx hb dX8_taker_10 (by decide) ?_
    refine lv_goto (tgt := 20) hx hb dX8_taker_11 (by decide) ?_
    have hf := Option.some.inj hf
    cases hf
    exact x_iret hx hb hr hlocks hK hP hD hS dX8_taker_20
theorem kdX8_whyNotReversed : yX8_whyNotReversed.cls = RX8 ∧ yX8_whyNotReversed.cls ≠ "java/lang/invoke/MethodHandle" ∧ yX8_whyNotReversed.cls ≠ "java/lang/invoke/VarHandle" ∧ (parseMethodDescriptor yX8_whyNotReversed.desc).map (fun d => d.parameters.length) = some 1 := by decide +kernel
def rmX8_whyNotReversed : Room := { frames := 4, cells := 0, slots := 0, locals := 88 }
set_option maxHeartbeats 4000000 in
set_option maxRecDepth 100000 in
theorem mX8_whyNotReversed (l : Launch) (D : va_G) (cy : Nat → ClassId) (a0 a1 a2 a3 a4 a5 a6 : Nat) (st : Nat → Int32) (gr : Nat → Int64) (hi : Nat → Int32) (gh : Nat → Int64) (rc : Int32) (tx : Nat → Int32) (tl : Int32) (rk : Nat → Int32) (tb : Int32) (tk : Int64) (at_ : Int32) (ltr : Int32) (on_ : Int32) (tw : Int32) (th : Int32) (nu : Int32) (p1 : Int32) (r : Int32) (hf : fX8_whyNotReversed st p1 = some r) : xMi l D cy yX8_whyNotReversed aX8_whyNotReversed rmX8_whyNotReversed ([.ref a0, .int p1] : List Value) (wX8 cy a0 a1 a2 a3 a4 a5 a6 st gr hi gh rc tx tl rk tb tk at_ ltr on_ tw th nu) (wX8 cy a0 a1 a2 a3 a4 a5 a6 st gr hi gh rc tx tl rk tb tk at_ ltr on_ tw th nu) r := by
  intro hz
  refine x_start (Qc := xQi D cy _ r) (cc := cX8_whyNotReversed) (maxL := 5) (ret := (some .int)) (by decide) rfl (Nat.le_of_ble_eq_true rfl) (lv := [(0, .ref a0), (1, .int p1)]) rfl ?_
  intro p e s m below meth c ls A hx hb hr hml hown hts hlocks hK hP hD hS hA hN hl
  have hown : s.vm.findClass RX8 = some m.cls := hown
  have hbg : ∀ w ∈ wsL_law, w ∈ aX8_whyNotReversed := fun w h => List.mem_cons_of_mem _ h
  unfold fX8_whyNotReversed at hf
  refine lv_aload_n hx hb dX8_whyNotReversed_0 rfl (lv_at hl 0 rfl) ?_
  refine lv_iload_n hx hb dX8_whyNotReversed_1 rfl (lv_at hl 1 rfl) ?_
  obtain ⟨r_1, h_2, hf⟩ := bd1_el hf
  refine x_callVi (As := [.int p1]) (rest := []) ⟨hx, hb, hml, hown, hts⟩ (mX8_isEntry l D cy a0 a1 a2 a3 a4 a5 a6 st gr hi gh rc tx tl rk tb tk at_ ltr on_ tw th nu p1 r_1 h_2) (cwV 1 hts (gcV_X8_isEntry hbg wm_25_10) rfl rfl rfl kdX8_isEntry ⟨Nat.le_of_ble_eq_true rfl, Nat.le_of_ble_eq_true rfl⟩) (w1 := []) (w2 := []) (w' := wX8 cy a0 a1 a2 a3 a4 a5 a6 st gr hi gh rc tx tl rk tb tk at_ ltr on_ tw th nu) (List.append_nil _) (List.append_nil _) hP hK hD hN hS hA (q0 := 0) rfl rfl rfl rfl hl rfl (Nat.le_of_ble_eq_true rfl) dX8_whyNotReversed_2 ⟨Nat.zero_le _, Nat.zero_le _⟩ (fun H locs hP hD hS => ?_)
  refine lv_if_ne (tgt := 10) hx hb dX8_whyNotReversed_5 (by decide) (fun c_3 => ?_) (fun c_3 => ?_)
  · have hf := x_f c_3 hf
    refine lv_aload_n hx hb dX8_whyNotReversed_10 rfl (lv_at hl 0 rfl) ?_
    refine lv_iload_n hx hb dX8_whyNotReversed_11 rfl (lv_at hl 1 rfl) ?_
    obtain ⟨r_4, h_5, hf⟩ := bd1_el hf
    refine x_callVi (As := [.int p1]) (rest := []) ⟨hx, hb, hml, hown, hts⟩ (mX8_giver l D cy a0 a1 a2 a3 a4 a5 a6 st gr hi gh rc tx tl rk tb tk at_ ltr on_ tw th nu p1 r_4 h_5) (cwV 1 hts (gcV_X8_giver hbg wm_25_14) rfl rfl rfl kdX8_giver ⟨Nat.le_of_ble_eq_true rfl, Nat.le_of_ble_eq_true rfl⟩) (w1 := []) (w2 := []) (w' := wX8 cy a0 a1 a2 a3 a4 a5 a6 st gr hi gh rc tx tl rk tb tk at_ ltr on_ tw th nu) (List.append_nil _) (List.append_nil _) hP hK hD hN hS hA (q0 := 0) rfl rfl rfl rfl hl rfl (Nat.le_of_ble_eq_true rfl) dX8_whyNotReversed_12 ⟨Nat.zero_le _, Nat.zero_le _⟩ (fun H locs hP hD hS => ?_)
    refine lv_istore_n (lv' := [(2, .int r_4), (0, .ref a0), (1, .int p1)]) hx hb dX8_whyNotReversed_15 rfl hl (by decide) rfl (fun ls hl => ?_)
    refine lv_aload_n hx hb dX8_whyNotReversed_16 rfl (lv_at hl 1 rfl) ?_
    refine lv_iload_n hx hb dX8_whyNotReversed_17 rfl (lv_at hl 2 rfl) ?_
    obtain ⟨r_6, h_7, hf⟩ := bd1_el hf
    refine x_callVi (As := [.int p1]) (rest := []) ⟨hx, hb, hml, hown, hts⟩ (mX8_taker l D cy a0 a1 a2 a3 a4 a5 a6 st gr hi gh rc tx tl rk tb tk at_ ltr on_ tw th nu p1 r_6 h_7) (cwV 1 hts (gcV_X8_taker hbg wm_25_22) rfl rfl rfl kdX8_taker ⟨Nat.le_of_ble_eq_true rfl, Nat.le_of_ble_eq_true rfl⟩) (w1 := []) (w2 := []) (w' := wX8 cy a0 a1 a2 a3 a4 a5 a6 st gr hi gh rc tx tl rk tb tk at_ ltr on_ tw th nu) (List.append_nil _) (List.append_nil _) hP hK hD hN hS hA (q0 := 0) rfl rfl rfl rfl hl rfl (Nat.le_of_ble_eq_true rfl) dX8_whyNotReversed_18 ⟨Nat.zero_le _, Nat.zero_le _⟩ (fun H locs hP hD hS => ?_)
    refine lv_istore_n (lv' := [(3, .int r_6), (2, .int r_4), (0, .ref a0), (1, .int p1)]) hx hb dX8_whyNotReversed_21 rfl hl (by decide) rfl (fun ls hl => ?_)
    refine lv_aload_n hx hb dX8_whyNotReversed_22 rfl (lv_at hl 2 rfl) ?_
    refine lv_iload_n hx hb dX8_whyNotReversed_23 rfl (lv_at hl 3 rfl) ?_
    refine lv_iconst (v := 1) hx hb dX8_whyNotReversed_24 (by decide) ?_
    obtain ⟨r_8, h_9, hf⟩ := bd1_el hf
    refine x_callVi (As := [.int p1, .int 1]) (rest := []) ⟨hx, hb, hml, hown, hts⟩ (mX8_entryPart l D cy a0 a1 a2 a3 a4 a5 a6 st gr hi gh rc tx tl rk tb tk at_ ltr on_ tw th nu p1 1 r_8 h_9) (cwV 2 hts (gcV_X8_entryPart hbg wm_25_18) rfl rfl rfl kdX8_entryPart ⟨Nat.le_of_ble_eq_true rfl, Nat.le_of_ble_eq_true rfl⟩) (w1 := []) (w2 := []) (w' := wX8 cy a0 a1 a2 a3 a4 a5 a6 st gr hi gh rc tx tl rk tb tk at_ ltr on_ tw th nu) (List.append_nil _) (List.append_nil _) hP hK hD hN hS hA (q0 := 0) rfl rfl rfl rfl hl rfl (Nat.le_of_ble_eq_true rfl) dX8_whyNotReversed_25 ⟨Nat.zero_le _, Nat.zero_le _⟩ (fun H locs hP hD hS => ?_)
    refine lv_iconst (v := 3) hx hb dX8_whyNotReversed_28 (by decide) ?_
    refine lv_icmp_gt (tgt := 71) hx hb dX8_whyNotReversed_29 (by decide) (fun c_10 => ?_) (fun c_10 => ?_)
    · have hf := x_t c_10 hf
      refine lv_bipush (v := (-3)) hx hb dX8_whyNotReversed_71 (by decide) ?_
      have hf := Option.some.inj hf
      cases hf
      exact x_iret hx hb hr hlocks hK hP hD hS dX8_whyNotReversed_73
    · have hf := x_f c_10 hf
      refine lv_aload_n hx hb dX8_whyNotReversed_32 rfl (lv_at hl 2 rfl) ?_
      refine lv_iload_n hx hb dX8_whyNotReversed_33 rfl (lv_at hl 3 rfl) ?_
      refine lv_bipush (v := 6) hx hb dX8_whyNotReversed_34 (by decide) ?_
      obtain ⟨r_11, h_12, hf⟩ := bd1_el hf
      refine x_callVi (As := [.int p1, .int 6]) (rest := []) ⟨hx, hb, hml, hown, hts⟩ (mX8_entryPart l D cy a0 a1 a2 a3 a4 a5 a6 st gr hi gh rc tx tl rk tb tk at_ ltr on_ tw th nu p1 6 r_11 h_12) (cwV 2 hts (gcV_X8_entryPart hbg wm_25_18) rfl rfl rfl kdX8_entryPart ⟨Nat.le_of_ble_eq_true rfl, Nat.le_of_ble_eq_true rfl⟩) (w1 := []) (w2 := []) (w' := wX8 cy a0 a1 a2 a3 a4 a5 a6 st gr hi gh rc tx tl rk tb tk at_ ltr on_ tw th nu) (List.append_nil _) (List.append_nil _) hP hK hD hN hS hA (q0 := 0) rfl rfl rfl rfl hl rfl (Nat.le_of_ble_eq_true rfl) dX8_whyNotReversed_36 ⟨Nat.zero_le _, Nat.zero_le _⟩ (fun H locs hP hD hS => ?_)
      refine lv_iconst (v := 1) hx hb dX8_whyNotReversed_39 (by decide) ?_
      refine lv_icmp_eq (tgt := 71) hx hb dX8_whyNotReversed_40 (by decide) (fun c_13 => ?_) (fun c_13 => ?_)
      · have hf := x_t c_13 hf
        refine lv_bipush (v := (-3)) hx hb dX8_whyNotReversed_71 (by decide) ?_
        have hf := Option.some.inj hf
        cases hf
        exact x_iret hx hb hr hlocks hK hP hD hS dX8_whyNotReversed_73
      · have hf := x_f c_13 hf
        refine lv_iload_n hx hb dX8_whyNotReversed_43 rfl (lv_at hl 1 rfl) ?_
        refine lv_if_le (tgt := 57) hx hb dX8_whyNotReversed_44 (by decide) (fun c_14 => ?_) (fun c_14 => ?_)
        · have hf := x_t c_14 hf
          refine lv_iload_n hx hb dX8_whyNotReversed_57 rfl (lv_at hl 0 rfl) ?_
          refine lv_if_le (tgt := 74) hx hb dX8_whyNotReversed_58 (by decide) (fun c_15 => ?_) (fun c_15 => ?_)
          · have hf := x_t c_15 hf
            refine lv_aload_n hx hb dX8_whyNotReversed_74 rfl (lv_at hl 2 rfl) ?_
            refine lv_iload_n hx hb dX8_whyNotReversed_75 rfl (lv_at hl 3 rfl) ?_
            refine lv_iconst (v := 4) hx hb dX8_whyNotReversed_76 (by decide) ?_
            obtain ⟨r_16, h_17, hf⟩ := bd1_el hf
            refine x_callVi (As := [.int p1, .int 4]) (rest := []) ⟨hx, hb, hml, hown, hts⟩ (mX8_entryPart l D cy a0 a1 a2 a3 a4 a5 a6 st gr hi gh rc tx tl rk tb tk at_ ltr on_ tw th nu p1 4 r_16 h_17) (cwV 2 hts (gcV_X8_entryPart hbg wm_25_18) rfl rfl rfl kdX8_entryPart ⟨Nat.le_of_ble_eq_true rfl, Nat.le_of_ble_eq_true rfl⟩) (w1 := []) (w2 := []) (w' := wX8 cy a0 a1 a2 a3 a4 a5 a6 st gr hi gh rc tx tl rk tb tk at_ ltr on_ tw th nu) (List.append_nil _) (List.append_nil _) hP hK hD hN hS hA (q0 := 0) rfl rfl rfl rfl hl rfl (Nat.le_of_ble_eq_true rfl) dX8_whyNotReversed_77 ⟨Nat.zero_le _, Nat.zero_le _⟩ (fun H locs hP hD hS => ?_)
            refine lv_istore (lv' := [(4, .int r_16), (3, .int r_6), (2, .int r_4), (0, .ref a0), (1, .int p1)]) hx hb dX8_whyNotReversed_80 hl (by decide) rfl (fun ls hl => ?_)
            refine lv_iload_n hx hb dX8_whyNotReversed_82 rfl (lv_at hl 2 rfl) ?_
            refine lv_if_le (tgt := 103) hx hb dX8_whyNotReversed_83 (by decide) (fun c_18 => ?_) (fun c_18 => ?_)
            · have hf := x_t c_18 hf
              refine lv_iload_n hx hb dX8_whyNotReversed_103 rfl (lv_at hl 1 rfl) ?_
              refine lv_if_eq (tgt := 121) hx hb dX8_whyNotReversed_104 (by decide) (fun c_19 => ?_) (fun c_19 => ?_)
              · have hf := x_t c_19 hf
                refine lv_iconst (v := 0) hx hb dX8_whyNotReversed_121 (by decide) ?_
                refine lv_goto (tgt := 127) hx hb dX8_whyNotReversed_122 (by decide) ?_
                have hf := Option.some.inj hf
                cases hf
                exact x_iret hx hb hr hlocks hK hP hD hS dX8_whyNotReversed_127
              · have hf := x_f c_19 hf
                refine lv_aload_n hx hb dX8_whyNotReversed_107 rfl (lv_at hl 3 rfl) ?_
                refine lv_aload_n hx hb dX8_whyNotReversed_108 rfl (lv_at hl 3 rfl) ?_
                refine lv_iload_n hx hb dX8_whyNotReversed_109 rfl (lv_at hl 1 rfl) ?_
                obtain ⟨r_20, h_21, hf⟩ := bd1_el hf
                refine x_callVi (As := [.int r_6]) (rest := [.ref a0]) ⟨hx, hb, hml, hown, hts⟩ (mX8_find l D cy a0 a1 a2 a3 a4 a5 a6 st gr hi gh rc tx tl rk tb tk at_ ltr on_ tw th nu r_6 r_20 h_21) (cwV 1 hts (gcV_X8_find hbg wm_9_5) rfl rfl rfl kdX8_find ⟨Nat.le_of_ble_eq_true rfl, Nat.le_of_ble_eq_true rfl⟩) (w1 := []) (w2 := []) (w' := wX8 cy a0 a1 a2 a3 a4 a5 a6 st gr hi gh rc tx tl rk tb tk at_ ltr on_ tw th nu) (List.append_nil _) (List.append_nil _) hP hK hD hN hS hA (q0 := 0) rfl rfl rfl rfl hl rfl (Nat.le_of_ble_eq_true rfl) dX8_whyNotReversed_110 ⟨Nat.zero_le _, Nat.zero_le _⟩ (fun H locs hP hD hS => ?_)
                refine lv_iload hx hb dX8_whyNotReversed_113 (lv_at hl 0 rfl) ?_
                obtain ⟨r_22, h_23, hf⟩ := bd1_el hf
                refine x_callVi (As := [.int r_20, .int r_16]) (rest := []) ⟨hx, hb, hml, hown, hts⟩ (mX8_hasRoom l D cy a0 a1 a2 a3 a4 a5 a6 st gr hi gh rc tx tl rk tb tk at_ ltr on_ tw th nu r_20 r_16 r_22 h_23) (cwV 2 hts (gcV_X8_hasRoom hbg wm_13_9) rfl rfl rfl kdX8_hasRoom ⟨Nat.le_of_ble_eq_true rfl, Nat.le_of_ble_eq_true rfl⟩) (w1 := []) (w2 := []) (w' := wX8 cy a0 a1 a2 a3 a4 a5 a6 st gr hi gh rc tx tl rk tb tk at_ ltr on_ tw th nu) (List.append_nil _) (List.append_nil _) hP hK hD hN hS hA (q0 := 0) rfl rfl rfl rfl hl rfl (Nat.le_of_ble_eq_true rfl) dX8_whyNotReversed_115 ⟨Nat.zero_le _, Nat.zero_le _⟩ (fun H locs hP hD hS => ?_)
                refine lv_if_eq (tgt := 125) hx hb dX8_whyNotReversed_118 (by decide) (fun c_24 => ?_) (fun c_24 => ?_)
                · have hf := x_t c_24 hf
                  refine lv_bipush (v := (-4)) hx hb dX8_whyNotReversed_125 (by decide) ?_
                  have hf := Option.some.inj hf
                  cases hf
                  exact x_iret hx hb hr hlocks hK hP hD hS dX8_whyNotReversed_127
                · have hf := x_f c_24 hf
                  refine lv_iconst (v := 0) hx hb dX8_whyNotReversed_121 (by decide) ?_
                  refine lv_goto (tgt := 127) hx hb dX8_whyNotReversed_122 (by decide) ?_
                  have hf := Option.some.inj hf
                  cases hf
                  exact x_iret hx hb hr hlocks hK hP hD hS dX8_whyNotReversed_127
            · have hf := x_f c_18 hf
              refine lv_aload_n hx hb dX8_whyNotReversed_86 rfl (lv_at hl 3 rfl) ?_
              refine lv_aload_n hx hb dX8_whyNotReversed_87 rfl (lv_at hl 3 rfl) ?_
              refine lv_iload_n hx hb dX8_whyNotReversed_88 rfl (lv_at hl 2 rfl) ?_
              obtain ⟨r_25, h_26, hf⟩ := bd1_el hf
              refine x_callVi (As := [.int r_4]) (rest := [.ref a0]) ⟨hx, hb, hml, hown, hts⟩ (mX8_find l D cy a0 a1 a2 a3 a4 a5 a6 st gr hi gh rc tx tl rk tb tk at_ ltr on_ tw th nu r_4 r_25 h_26) (cwV 1 hts (gcV_X8_find hbg wm_9_5) rfl rfl rfl kdX8_find ⟨Nat.le_of_ble_eq_true rfl, Nat.le_of_ble_eq_true rfl⟩) (w1 := []) (w2 := []) (w' := wX8 cy a0 a1 a2 a3 a4 a5 a6 st gr hi gh rc tx tl rk tb tk at_ ltr on_ tw th nu) (List.append_nil _) (List.append_nil _) hP hK hD hN hS hA (q0 := 0) rfl rfl rfl rfl hl rfl (Nat.le_of_ble_eq_true rfl) dX8_whyNotReversed_89 ⟨Nat.zero_le _, Nat.zero_le _⟩ (fun H locs hP hD hS => ?_)
              obtain ⟨r_27, h_28, hf⟩ := bd1_el hf
              refine x_callVi (As := [.int r_25]) (rest := []) ⟨hx, hb, hml, hown, hts⟩ (mX8_free l D cy a0 a1 a2 a3 a4 a5 a6 st gr hi gh rc tx tl rk tb tk at_ ltr on_ tw th nu r_25 r_27 h_28) (cwV 1 hts (gcV_X8_free hbg wm_15_8) rfl rfl rfl kdX8_free ⟨Nat.le_of_ble_eq_true rfl, Nat.le_of_ble_eq_true rfl⟩) (w1 := []) (w2 := []) (w' := wX8 cy a0 a1 a2 a3 a4 a5 a6 st gr hi gh rc tx tl rk tb tk at_ ltr on_ tw th nu) (List.append_nil _) (List.append_nil _) hP hK hD hN hS hA (q0 := 0) rfl rfl rfl rfl hl rfl (Nat.le_of_ble_eq_true rfl) dX8_whyNotReversed_92 ⟨Nat.zero_le _, Nat.zero_le _⟩ (fun H locs hP hD hS => ?_)
              refine lv_iload hx hb dX8_whyNotReversed_95 (lv_at hl 0 rfl) ?_
              refine lv_icmp_ge (tgt := 103) hx hb dX8_whyNotReversed_97 (by decide) (fun c_29 => ?_) (fun c_29 => ?_)
              · have hf := x_t c_29 hf
                refine lv_iload_n hx hb dX8_whyNotReversed_103 rfl (lv_at hl 1 rfl) ?_
                refine lv_if_eq (tgt := 121) hx hb dX8_whyNotReversed_104 (by decide) (fun c_30 => ?_) (fun c_30 => ?_)
                · have hf := x_t c_30 hf
                  refine lv_iconst (v := 0) hx hb dX8_whyNotReversed_121 (by decide) ?_
                  refine lv_goto (tgt := 127) hx hb dX8_whyNotReversed_122 (by decide) ?_
                  have hf := Option.some.inj hf
                  cases hf
                  exact x_iret hx hb hr hlocks hK hP hD hS dX8_whyNotReversed_127
                · have hf := x_f c_30 hf
                  refine lv_aload_n hx hb dX8_whyNotReversed_107 rfl (lv_at hl 3 rfl) ?_
                  refine lv_aload_n hx hb dX8_whyNotReversed_108 rfl (lv_at hl 3 rfl) ?_
                  refine lv_iload_n hx hb dX8_whyNotReversed_109 rfl (lv_at hl 1 rfl) ?_
                  obtain ⟨r_31, h_32, hf⟩ := bd1_el hf
                  refine x_callVi (As := [.int r_6]) (rest := [.ref a0]) ⟨hx, hb, hml, hown, hts⟩ (mX8_find l D cy a0 a1 a2 a3 a4 a5 a6 st gr hi gh rc tx tl rk tb tk at_ ltr on_ tw th nu r_6 r_31 h_32) (cwV 1 hts (gcV_X8_find hbg wm_9_5) rfl rfl rfl kdX8_find ⟨Nat.le_of_ble_eq_true rfl, Nat.le_of_ble_eq_true rfl⟩) (w1 := []) (w2 := []) (w' := wX8 cy a0 a1 a2 a3 a4 a5 a6 st gr hi gh rc tx tl rk tb tk at_ ltr on_ tw th nu) (List.append_nil _) (List.append_nil _) hP hK hD hN hS hA (q0 := 0) rfl rfl rfl rfl hl rfl (Nat.le_of_ble_eq_true rfl) dX8_whyNotReversed_110 ⟨Nat.zero_le _, Nat.zero_le _⟩ (fun H locs hP hD hS => ?_)
                  refine lv_iload hx hb dX8_whyNotReversed_113 (lv_at hl 0 rfl) ?_
                  obtain ⟨r_33, h_34, hf⟩ := bd1_el hf
                  refine x_callVi (As := [.int r_31, .int r_16]) (rest := []) ⟨hx, hb, hml, hown, hts⟩ (mX8_hasRoom l D cy a0 a1 a2 a3 a4 a5 a6 st gr hi gh rc tx tl rk tb tk at_ ltr on_ tw th nu r_31 r_16 r_33 h_34) (cwV 2 hts (gcV_X8_hasRoom hbg wm_13_9) rfl rfl rfl kdX8_hasRoom ⟨Nat.le_of_ble_eq_true rfl, Nat.le_of_ble_eq_true rfl⟩) (w1 := []) (w2 := []) (w' := wX8 cy a0 a1 a2 a3 a4 a5 a6 st gr hi gh rc tx tl rk tb tk at_ ltr on_ tw th nu) (List.append_nil _) (List.append_nil _) hP hK hD hN hS hA (q0 := 0) rfl rfl rfl rfl hl rfl (Nat.le_of_ble_eq_true rfl) dX8_whyNotReversed_115 ⟨Nat.zero_le _, Nat.zero_le _⟩ (fun H locs hP hD hS => ?_)
                  refine lv_if_eq (tgt := 125) hx hb dX8_whyNotReversed_118 (by decide) (fun c_35 => ?_) (fun c_35 => ?_)
                  · have hf := x_t c_35 hf
                    refine lv_bipush (v := (-4)) hx hb dX8_whyNotReversed_125 (by decide) ?_
                    have hf := Option.some.inj hf
                    cases hf
                    exact x_iret hx hb hr hlocks hK hP hD hS dX8_whyNotReversed_127
                  · have hf := x_f c_35 hf
                    refine lv_iconst (v := 0) hx hb dX8_whyNotReversed_121 (by decide) ?_
                    refine lv_goto (tgt := 127) hx hb dX8_whyNotReversed_122 (by decide) ?_
                    have hf := Option.some.inj hf
                    cases hf
                    exact x_iret hx hb hr hlocks hK hP hD hS dX8_whyNotReversed_127
              · have hf := x_f c_29 hf
                refine lv_bipush (v := (-3)) hx hb dX8_whyNotReversed_100 (by decide) ?_
                have hf := Option.some.inj hf
                cases hf
                exact x_iret hx hb hr hlocks hK hP hD hS dX8_whyNotReversed_102
          · have hf := x_f c_15 hf
            refine lv_aload_n hx hb dX8_whyNotReversed_61 rfl (lv_at hl 2 rfl) ?_
            refine lv_iload_n hx hb dX8_whyNotReversed_62 rfl (lv_at hl 0 rfl) ?_
            obtain ⟨r_36, h_37, hf⟩ := bd1_el hf
            refine x_callVi (As := [.int r_6]) (rest := []) ⟨hx, hb, hml, hown, hts⟩ (mX8_find l D cy a0 a1 a2 a3 a4 a5 a6 st gr hi gh rc tx tl rk tb tk at_ ltr on_ tw th nu r_6 r_36 h_37) (cwV 1 hts (gcV_X8_find hbg wm_9_5) rfl rfl rfl kdX8_find ⟨Nat.le_of_ble_eq_true rfl, Nat.le_of_ble_eq_true rfl⟩) (w1 := []) (w2 := []) (w' := wX8 cy a0 a1 a2 a3 a4 a5 a6 st gr hi gh rc tx tl rk tb tk at_ ltr on_ tw th nu) (List.append_nil _) (List.append_nil _) hP hK hD hN hS hA (q0 := 0) rfl rfl rfl rfl hl rfl (Nat.le_of_ble_eq_true rfl) dX8_whyNotReversed_63 ⟨Nat.zero_le _, Nat.zero_le _⟩ (fun H locs hP hD hS => ?_)
            refine lv_bipush (v := (-6)) hx hb dX8_whyNotReversed_66 (by decide) ?_
            refine lv_icmp_ne (tgt := 74) hx hb dX8_whyNotReversed_68 (by decide) (fun c_38 => ?_) (fun c_38 => ?_)
            · have hf := x_f c_38 hf
              refine lv_aload_n hx hb dX8_whyNotReversed_74 rfl (lv_at hl 2 rfl) ?_
              refine lv_iload_n hx hb dX8_whyNotReversed_75 rfl (lv_at hl 3 rfl) ?_
              refine lv_iconst (v := 4) hx hb dX8_whyNotReversed_76 (by decide) ?_
              obtain ⟨r_39, h_40, hf⟩ := bd1_el hf
              refine x_callVi (As := [.int p1, .int 4]) (rest := []) ⟨hx, hb, hml, hown, hts⟩ (mX8_entryPart l D cy a0 a1 a2 a3 a4 a5 a6 st gr hi gh rc tx tl rk tb tk at_ ltr on_ tw th nu p1 4 r_39 h_40) (cwV 2 hts (gcV_X8_entryPart hbg wm_25_18) rfl rfl rfl kdX8_entryPart ⟨Nat.le_of_ble_eq_true rfl, Nat.le_of_ble_eq_true rfl⟩) (w1 := []) (w2 := []) (w' := wX8 cy a0 a1 a2 a3 a4 a5 a6 st gr hi gh rc tx tl rk tb tk at_ ltr on_ tw th nu) (List.append_nil _) (List.append_nil _) hP hK hD hN hS hA (q0 := 0) rfl rfl rfl rfl hl rfl (Nat.le_of_ble_eq_true rfl) dX8_whyNotReversed_77 ⟨Nat.zero_le _, Nat.zero_le _⟩ (fun H locs hP hD hS => ?_)
              refine lv_istore (lv' := [(4, .int r_39), (3, .int r_6), (2, .int r_4), (0, .ref a0), (1, .int p1)]) hx hb dX8_whyNotReversed_80 hl (by decide) rfl (fun ls hl => ?_)
              refine lv_iload_n hx hb dX8_whyNotReversed_82 rfl (lv_at hl 2 rfl) ?_
              refine lv_if_le (tgt := 103) hx hb dX8_whyNotReversed_83 (by decide) (fun c_41 => ?_) (fun c_41 => ?_)
              · have hf := x_t c_41 hf
                refine lv_iload_n hx hb dX8_whyNotReversed_103 rfl (lv_at hl 1 rfl) ?_
                refine lv_if_eq (tgt := 121) hx hb dX8_whyNotReversed_104 (by decide) (fun c_42 => ?_) (fun c_42 => ?_)
                · have hf := x_t c_42 hf
                  refine lv_iconst (v := 0) hx hb dX8_whyNotReversed_121 (by decide) ?_
                  refine lv_goto (tgt := 127) hx hb dX8_whyNotReversed_122 (by decide) ?_
                  have hf := Option.some.inj hf
                  cases hf
                  exact x_iret hx hb hr hlocks hK hP hD hS dX8_whyNotReversed_127
                · have hf := x_f c_42 hf
                  refine lv_aload_n hx hb dX8_whyNotReversed_107 rfl (lv_at hl 3 rfl) ?_
                  refine lv_aload_n hx hb dX8_whyNotReversed_108 rfl (lv_at hl 3 rfl) ?_
                  refine lv_iload_n hx hb dX8_whyNotReversed_109 rfl (lv_at hl 1 rfl) ?_
                  obtain ⟨r_43, h_44, hf⟩ := bd1_el hf
                  refine x_callVi (As := [.int r_6]) (rest := [.ref a0]) ⟨hx, hb, hml, hown, hts⟩ (mX8_find l D cy a0 a1 a2 a3 a4 a5 a6 st gr hi gh rc tx tl rk tb tk at_ ltr on_ tw th nu r_6 r_43 h_44) (cwV 1 hts (gcV_X8_find hbg wm_9_5) rfl rfl rfl kdX8_find ⟨Nat.le_of_ble_eq_true rfl, Nat.le_of_ble_eq_true rfl⟩) (w1 := []) (w2 := []) (w' := wX8 cy a0 a1 a2 a3 a4 a5 a6 st gr hi gh rc tx tl rk tb tk at_ ltr on_ tw th nu) (List.append_nil _) (List.append_nil _) hP hK hD hN hS hA (q0 := 0) rfl rfl rfl rfl hl rfl (Nat.le_of_ble_eq_true rfl) dX8_whyNotReversed_110 ⟨Nat.zero_le _, Nat.zero_le _⟩ (fun H locs hP hD hS => ?_)
                  refine lv_iload hx hb dX8_whyNotReversed_113 (lv_at hl 0 rfl) ?_
                  obtain ⟨r_45, h_46, hf⟩ := bd1_el hf
                  refine x_callVi (As := [.int r_43, .int r_39]) (rest := []) ⟨hx, hb, hml, hown, hts⟩ (mX8_hasRoom l D cy a0 a1 a2 a3 a4 a5 a6 st gr hi gh rc tx tl rk tb tk at_ ltr on_ tw th nu r_43 r_39 r_45 h_46) (cwV 2 hts (gcV_X8_hasRoom hbg wm_13_9) rfl rfl rfl kdX8_hasRoom ⟨Nat.le_of_ble_eq_true rfl, Nat.le_of_ble_eq_true rfl⟩) (w1 := []) (w2 := []) (w' := wX8 cy a0 a1 a2 a3 a4 a5 a6 st gr hi gh rc tx tl rk tb tk at_ ltr on_ tw th nu) (List.append_nil _) (List.append_nil _) hP hK hD hN hS hA (q0 := 0) rfl rfl rfl rfl hl rfl (Nat.le_of_ble_eq_true rfl) dX8_whyNotReversed_115 ⟨Nat.zero_le _, Nat.zero_le _⟩ (fun H locs hP hD hS => ?_)
                  refine lv_if_eq (tgt := 125) hx hb dX8_whyNotReversed_118 (by decide) (fun c_47 => ?_) (fun c_47 => ?_)
                  · have hf := x_t c_47 hf
                    refine lv_bipush (v := (-4)) hx hb dX8_whyNotReversed_125 (by decide) ?_
                    have hf := Option.some.inj hf
                    cases hf
                    exact x_iret hx hb hr hlocks hK hP hD hS dX8_whyNotReversed_127
                  · have hf := x_f c_47 hf
                    refine lv_iconst (v := 0) hx hb dX8_whyNotReversed_121 (by decide) ?_
                    refine lv_goto (tgt := 127) hx hb dX8_whyNotReversed_122 (by decide) ?_
                    have hf := Option.some.inj hf
                    cases hf
                    exact x_iret hx hb hr hlocks hK hP hD hS dX8_whyNotReversed_127
              · have hf := x_f c_41 hf
                refine lv_aload_n hx hb dX8_whyNotReversed_86 rfl (lv_at hl 3 rfl) ?_
                refine lv_aload_n hx hb dX8_whyNotReversed_87 rfl (lv_at hl 3 rfl) ?_
                refine lv_iload_n hx hb dX8_whyNotReversed_88 rfl (lv_at hl 2 rfl) ?_
                obtain ⟨r_48, h_49, hf⟩ := bd1_el hf
                refine x_callVi (As := [.int r_4]) (rest := [.ref a0]) ⟨hx, hb, hml, hown, hts⟩ (mX8_find l D cy a0 a1 a2 a3 a4 a5 a6 st gr hi gh rc tx tl rk tb tk at_ ltr on_ tw th nu r_4 r_48 h_49) (cwV 1 hts (gcV_X8_find hbg wm_9_5) rfl rfl rfl kdX8_find ⟨Nat.le_of_ble_eq_true rfl, Nat.le_of_ble_eq_true rfl⟩) (w1 := []) (w2 := []) (w' := wX8 cy a0 a1 a2 a3 a4 a5 a6 st gr hi gh rc tx tl rk tb tk at_ ltr on_ tw th nu) (List.append_nil _) (List.append_nil _) hP hK hD hN hS hA (q0 := 0) rfl rfl rfl rfl hl rfl (Nat.le_of_ble_eq_true rfl) dX8_whyNotReversed_89 ⟨Nat.zero_le _, Nat.zero_le _⟩ (fun H locs hP hD hS => ?_)
                obtain ⟨r_50, h_51, hf⟩ := bd1_el hf
                refine x_callVi (As := [.int r_48]) (rest := []) ⟨hx, hb, hml, hown, hts⟩ (mX8_free l D cy a0 a1 a2 a3 a4 a5 a6 st gr hi gh rc tx tl rk tb tk at_ ltr on_ tw th nu r_48 r_50 h_51) (cwV 1 hts (gcV_X8_free hbg wm_15_8) rfl rfl rfl kdX8_free ⟨Nat.le_of_ble_eq_true rfl, Nat.le_of_ble_eq_true rfl⟩) (w1 := []) (w2 := []) (w' := wX8 cy a0 a1 a2 a3 a4 a5 a6 st gr hi gh rc tx tl rk tb tk at_ ltr on_ tw th nu) (List.append_nil _) (List.append_nil _) hP hK hD hN hS hA (q0 := 0) rfl rfl rfl rfl hl rfl (Nat.le_of_ble_eq_true rfl) dX8_whyNotReversed_92 ⟨Nat.zero_le _, Nat.zero_le _⟩ (fun H locs hP hD hS => ?_)
                refine lv_iload hx hb dX8_whyNotReversed_95 (lv_at hl 0 rfl) ?_
                refine lv_icmp_ge (tgt := 103) hx hb dX8_whyNotReversed_97 (by decide) (fun c_52 => ?_) (fun c_52 => ?_)
                · have hf := x_t c_52 hf
                  refine lv_iload_n hx hb dX8_whyNotReversed_103 rfl (lv_at hl 1 rfl) ?_
                  refine lv_if_eq (tgt := 121) hx hb dX8_whyNotReversed_104 (by decide) (fun c_53 => ?_) (fun c_53 => ?_)
                  · have hf := x_t c_53 hf
                    refine lv_iconst (v := 0) hx hb dX8_whyNotReversed_121 (by decide) ?_
                    refine lv_goto (tgt := 127) hx hb dX8_whyNotReversed_122 (by decide) ?_
                    have hf := Option.some.inj hf
                    cases hf
                    exact x_iret hx hb hr hlocks hK hP hD hS dX8_whyNotReversed_127
                  · have hf := x_f c_53 hf
                    refine lv_aload_n hx hb dX8_whyNotReversed_107 rfl (lv_at hl 3 rfl) ?_
                    refine lv_aload_n hx hb dX8_whyNotReversed_108 rfl (lv_at hl 3 rfl) ?_
                    refine lv_iload_n hx hb dX8_whyNotReversed_109 rfl (lv_at hl 1 rfl) ?_
                    obtain ⟨r_54, h_55, hf⟩ := bd1_el hf
                    refine x_callVi (As := [.int r_6]) (rest := [.ref a0]) ⟨hx, hb, hml, hown, hts⟩ (mX8_find l D cy a0 a1 a2 a3 a4 a5 a6 st gr hi gh rc tx tl rk tb tk at_ ltr on_ tw th nu r_6 r_54 h_55) (cwV 1 hts (gcV_X8_find hbg wm_9_5) rfl rfl rfl kdX8_find ⟨Nat.le_of_ble_eq_true rfl, Nat.le_of_ble_eq_true rfl⟩) (w1 := []) (w2 := []) (w' := wX8 cy a0 a1 a2 a3 a4 a5 a6 st gr hi gh rc tx tl rk tb tk at_ ltr on_ tw th nu) (List.append_nil _) (List.append_nil _) hP hK hD hN hS hA (q0 := 0) rfl rfl rfl rfl hl rfl (Nat.le_of_ble_eq_true rfl) dX8_whyNotReversed_110 ⟨Nat.zero_le _, Nat.zero_le _⟩ (fun H locs hP hD hS => ?_)
                    refine lv_iload hx hb dX8_whyNotReversed_113 (lv_at hl 0 rfl) ?_
                    obtain ⟨r_56, h_57, hf⟩ := bd1_el hf
                    refine x_callVi (As := [.int r_54, .int r_39]) (rest := []) ⟨hx, hb, hml, hown, hts⟩ (mX8_hasRoom l D cy a0 a1 a2 a3 a4 a5 a6 st gr hi gh rc tx tl rk tb tk at_ ltr on_ tw th nu r_54 r_39 r_56 h_57) (cwV 2 hts (gcV_X8_hasRoom hbg wm_13_9) rfl rfl rfl kdX8_hasRoom ⟨Nat.le_of_ble_eq_true rfl, Nat.le_of_ble_eq_true rfl⟩) (w1 := []) (w2 := []) (w' := wX8 cy a0 a1 a2 a3 a4 a5 a6 st gr hi gh rc tx tl rk tb tk at_ ltr on_ tw th nu) (List.append_nil _) (List.append_nil _) hP hK hD hN hS hA (q0 := 0) rfl rfl rfl rfl hl rfl (Nat.le_of_ble_eq_true rfl) dX8_whyNotReversed_115 ⟨Nat.zero_le _, Nat.zero_le _⟩ (fun H locs hP hD hS => ?_)
                    refine lv_if_eq (tgt := 125) hx hb dX8_whyNotReversed_118 (by decide) (fun c_58 => ?_) (fun c_58 => ?_)
                    · have hf := x_t c_58 hf
                      refine lv_bipush (v := (-4)) hx hb dX8_whyNotReversed_125 (by decide) ?_
                      have hf := Option.some.inj hf
                      cases hf
                      exact x_iret hx hb hr hlocks hK hP hD hS dX8_whyNotReversed_127
                    · have hf := x_f c_58 hf
                      refine lv_iconst (v := 0) hx hb dX8_whyNotReversed_121 (by decide) ?_
                      refine lv_goto (tgt := 127) hx hb dX8_whyNotReversed_122 (by decide) ?_
                      have hf := Option.some.inj hf
                      cases hf
                      exact x_iret hx hb hr hlocks hK hP hD hS dX8_whyNotReversed_127
                · have hf := x_f c_52 hf
                  refine lv_bipush (v := (-3)) hx hb dX8_whyNotReversed_100 (by decide) ?_
                  have hf := Option.some.inj hf
                  cases hf
                  exact x_iret hx hb hr hlocks hK hP hD hS dX8_whyNotReversed_102
            · have hf := x_t c_38 hf
              refine lv_bipush (v := (-3)) hx hb dX8_whyNotReversed_71 (by decide) ?_
              have hf := Option.some.inj hf
              cases hf
              exact x_iret hx hb hr hlocks hK hP hD hS dX8_whyNotReversed_73
        · have hf := x_f c_14 hf
          refine lv_aload_n hx hb dX8_whyNotReversed_47 rfl (lv_at hl 2 rfl) ?_
          refine lv_iload_n hx hb dX8_whyNotReversed_48 rfl (lv_at hl 1 rfl) ?_
          obtain ⟨r_59, h_60, hf⟩ := bd1_el hf
          refine x_callVi (As := [.int r_4]) (rest := []) ⟨hx, hb, hml, hown, hts⟩ (mX8_find l D cy a0 a1 a2 a3 a4 a5 a6 st gr hi gh rc tx tl rk tb tk at_ ltr on_ tw th nu r_4 r_59 h_60) (cwV 1 hts (gcV_X8_find hbg wm_9_5) rfl rfl rfl kdX8_find ⟨Nat.le_of_ble_eq_true rfl, Nat.le_of_ble_eq_true rfl⟩) (w1 := []) (w2 := []) (w' := wX8 cy a0 a1 a2 a3 a4 a5 a6 st gr hi gh rc tx tl rk tb tk at_ ltr on_ tw th nu) (List.append_nil _) (List.append_nil _) hP hK hD hN hS hA (q0 := 0) rfl rfl rfl rfl hl rfl (Nat.le_of_ble_eq_true rfl) dX8_whyNotReversed_49 ⟨Nat.zero_le _, Nat.zero_le _⟩ (fun H locs hP hD hS => ?_)
          refine lv_bipush (v := (-6)) hx hb dX8_whyNotReversed_52 (by decide) ?_
          refine lv_icmp_eq (tgt := 71) hx hb dX8_whyNotReversed_54 (by decide) (fun c_61 => ?_) (fun c_61 => ?_)
          · have hf := x_t c_61 hf
            refine lv_bipush (v := (-3)) hx hb dX8_whyNotReversed_71 (by decide) ?_
            have hf := Option.some.inj hf
            cases hf
            exact x_iret hx hb hr hlocks hK hP hD hS dX8_whyNotReversed_73
          · have hf := x_f c_61 hf
            refine lv_iload_n hx hb dX8_whyNotReversed_57 rfl (lv_at hl 0 rfl) ?_
            refine lv_if_le (tgt := 74) hx hb dX8_whyNotReversed_58 (by decide) (fun c_62 => ?_) (fun c_62 => ?_)
            · have hf := x_t c_62 hf
              refine lv_aload_n hx hb dX8_whyNotReversed_74 rfl (lv_at hl 2 rfl) ?_
              refine lv_iload_n hx hb dX8_whyNotReversed_75 rfl (lv_at hl 3 rfl) ?_
              refine lv_iconst (v := 4) hx hb dX8_whyNotReversed_76 (by decide) ?_
              obtain ⟨r_63, h_64, hf⟩ := bd1_el hf
              refine x_callVi (As := [.int p1, .int 4]) (rest := []) ⟨hx, hb, hml, hown, hts⟩ (mX8_entryPart l D cy a0 a1 a2 a3 a4 a5 a6 st gr hi gh rc tx tl rk tb tk at_ ltr on_ tw th nu p1 4 r_63 h_64) (cwV 2 hts (gcV_X8_entryPart hbg wm_25_18) rfl rfl rfl kdX8_entryPart ⟨Nat.le_of_ble_eq_true rfl, Nat.le_of_ble_eq_true rfl⟩) (w1 := []) (w2 := []) (w' := wX8 cy a0 a1 a2 a3 a4 a5 a6 st gr hi gh rc tx tl rk tb tk at_ ltr on_ tw th nu) (List.append_nil _) (List.append_nil _) hP hK hD hN hS hA (q0 := 0) rfl rfl rfl rfl hl rfl (Nat.le_of_ble_eq_true rfl) dX8_whyNotReversed_77 ⟨Nat.zero_le _, Nat.zero_le _⟩ (fun H locs hP hD hS => ?_)
              refine lv_istore (lv' := [(4, .int r_63), (3, .int r_6), (2, .int r_4), (0, .ref a0), (1, .int p1)]) hx hb dX8_whyNotReversed_80 hl (by decide) rfl (fun ls hl => ?_)
              refine lv_iload_n hx hb dX8_whyNotReversed_82 rfl (lv_at hl 2 rfl) ?_
              refine lv_if_le (tgt := 103) hx hb dX8_whyNotReversed_83 (by decide) (fun c_65 => ?_) (fun c_65 => ?_)
              · have hf := x_t c_65 hf
                refine lv_iload_n hx hb dX8_whyNotReversed_103 rfl (lv_at hl 1 rfl) ?_
                refine lv_if_eq (tgt := 121) hx hb dX8_whyNotReversed_104 (by decide) (fun c_66 => ?_) (fun c_66 => ?_)
                · have hf := x_t c_66 hf
                  refine lv_iconst (v := 0) hx hb dX8_whyNotReversed_121 (by decide) ?_
                  refine lv_goto (tgt := 127) hx hb dX8_whyNotReversed_122 (by decide) ?_
                  have hf := Option.some.inj hf
                  cases hf
                  exact x_iret hx hb hr hlocks hK hP hD hS dX8_whyNotReversed_127
                · have hf := x_f c_66 hf
                  refine lv_aload_n hx hb dX8_whyNotReversed_107 rfl (lv_at hl 3 rfl) ?_
                  refine lv_aload_n hx hb dX8_whyNotReversed_108 rfl (lv_at hl 3 rfl) ?_
                  refine lv_iload_n hx hb dX8_whyNotReversed_109 rfl (lv_at hl 1 rfl) ?_
                  obtain ⟨r_67, h_68, hf⟩ := bd1_el hf
                  refine x_callVi (As := [.int r_6]) (rest := [.ref a0]) ⟨hx, hb, hml, hown, hts⟩ (mX8_find l D cy a0 a1 a2 a3 a4 a5 a6 st gr hi gh rc tx tl rk tb tk at_ ltr on_ tw th nu r_6 r_67 h_68) (cwV 1 hts (gcV_X8_find hbg wm_9_5) rfl rfl rfl kdX8_find ⟨Nat.le_of_ble_eq_true rfl, Nat.le_of_ble_eq_true rfl⟩) (w1 := []) (w2 := []) (w' := wX8 cy a0 a1 a2 a3 a4 a5 a6 st gr hi gh rc tx tl rk tb tk at_ ltr on_ tw th nu) (List.append_nil _) (List.append_nil _) hP hK hD hN hS hA (q0 := 0) rfl rfl rfl rfl hl rfl (Nat.le_of_ble_eq_true rfl) dX8_whyNotReversed_110 ⟨Nat.zero_le _, Nat.zero_le _⟩ (fun H locs hP hD hS => ?_)
                  refine lv_iload hx hb dX8_whyNotReversed_113 (lv_at hl 0 rfl) ?_
                  obtain ⟨r_69, h_70, hf⟩ := bd1_el hf
                  refine x_callVi (As := [.int r_67, .int r_63]) (rest := []) ⟨hx, hb, hml, hown, hts⟩ (mX8_hasRoom l D cy a0 a1 a2 a3 a4 a5 a6 st gr hi gh rc tx tl rk tb tk at_ ltr on_ tw th nu r_67 r_63 r_69 h_70) (cwV 2 hts (gcV_X8_hasRoom hbg wm_13_9) rfl rfl rfl kdX8_hasRoom ⟨Nat.le_of_ble_eq_true rfl, Nat.le_of_ble_eq_true rfl⟩) (w1 := []) (w2 := []) (w' := wX8 cy a0 a1 a2 a3 a4 a5 a6 st gr hi gh rc tx tl rk tb tk at_ ltr on_ tw th nu) (List.append_nil _) (List.append_nil _) hP hK hD hN hS hA (q0 := 0) rfl rfl rfl rfl hl rfl (Nat.le_of_ble_eq_true rfl) dX8_whyNotReversed_115 ⟨Nat.zero_le _, Nat.zero_le _⟩ (fun H locs hP hD hS => ?_)
                  refine lv_if_eq (tgt := 125) hx hb dX8_whyNotReversed_118 (by decide) (fun c_71 => ?_) (fun c_71 => ?_)
                  · have hf := x_t c_71 hf
                    refine lv_bipush (v := (-4)) hx hb dX8_whyNotReversed_125 (by decide) ?_
                    have hf := Option.some.inj hf
                    cases hf
                    exact x_iret hx hb hr hlocks hK hP hD hS dX8_whyNotReversed_127
                  · have hf := x_f c_71 hf
                    refine lv_iconst (v := 0) hx hb dX8_whyNotReversed_121 (by decide) ?_
                    refine lv_goto (tgt := 127) hx hb dX8_whyNotReversed_122 (by decide) ?_
                    have hf := Option.some.inj hf
                    cases hf
                    exact x_iret hx hb hr hlocks hK hP hD hS dX8_whyNotReversed_127
              · have hf := x_f c_65 hf
                refine lv_aload_n hx hb dX8_whyNotReversed_86 rfl (lv_at hl 3 rfl) ?_
                refine lv_aload_n hx hb dX8_whyNotReversed_87 rfl (lv_at hl 3 rfl) ?_
                refine lv_iload_n hx hb dX8_whyNotReversed_88 rfl (lv_at hl 2 rfl) ?_
                obtain ⟨r_72, h_73, hf⟩ := bd1_el hf
                refine x_callVi (As := [.int r_4]) (rest := [.ref a0]) ⟨hx, hb, hml, hown, hts⟩ (mX8_find l D cy a0 a1 a2 a3 a4 a5 a6 st gr hi gh rc tx tl rk tb tk at_ ltr on_ tw th nu r_4 r_72 h_73) (cwV 1 hts (gcV_X8_find hbg wm_9_5) rfl rfl rfl kdX8_find ⟨Nat.le_of_ble_eq_true rfl, Nat.le_of_ble_eq_true rfl⟩) (w1 := []) (w2 := []) (w' := wX8 cy a0 a1 a2 a3 a4 a5 a6 st gr hi gh rc tx tl rk tb tk at_ ltr on_ tw th nu) (List.append_nil _) (List.append_nil _) hP hK hD hN hS hA (q0 := 0) rfl rfl rfl rfl hl rfl (Nat.le_of_ble_eq_true rfl) dX8_whyNotReversed_89 ⟨Nat.zero_le _, Nat.zero_le _⟩ (fun H locs hP hD hS => ?_)
                obtain ⟨r_74, h_75, hf⟩ := bd1_el hf
                refine x_callVi (As := [.int r_72]) (rest := []) ⟨hx, hb, hml, hown, hts⟩ (mX8_free l D cy a0 a1 a2 a3 a4 a5 a6 st gr hi gh rc tx tl rk tb tk at_ ltr on_ tw th nu r_72 r_74 h_75) (cwV 1 hts (gcV_X8_free hbg wm_15_8) rfl rfl rfl kdX8_free ⟨Nat.le_of_ble_eq_true rfl, Nat.le_of_ble_eq_true rfl⟩) (w1 := []) (w2 := []) (w' := wX8 cy a0 a1 a2 a3 a4 a5 a6 st gr hi gh rc tx tl rk tb tk at_ ltr on_ tw th nu) (List.append_nil _) (List.append_nil _) hP hK hD hN hS hA (q0 := 0) rfl rfl rfl rfl hl rfl (Nat.le_of_ble_eq_true rfl) dX8_whyNotReversed_92 ⟨Nat.zero_le _, Nat.zero_le _⟩ (fun H locs hP hD hS => ?_)
                refine lv_iload hx hb dX8_whyNotReversed_95 (lv_at hl 0 rfl) ?_
                refine lv_icmp_ge (tgt := 103) hx hb dX8_whyNotReversed_97 (by decide) (fun c_76 => ?_) (fun c_76 => ?_)
                · have hf := x_t c_76 hf
                  refine lv_iload_n hx hb dX8_whyNotReversed_103 rfl (lv_at hl 1 rfl) ?_
                  refine lv_if_eq (tgt := 121) hx hb dX8_whyNotReversed_104 (by decide) (fun c_77 => ?_) (fun c_77 => ?_)
                  · have hf := x_t c_77 hf
                    refine lv_iconst (v := 0) hx hb dX8_whyNotReversed_121 (by decide) ?_
                    refine lv_goto (tgt := 127) hx hb dX8_whyNotReversed_122 (by decide) ?_
                    have hf := Option.some.inj hf
                    cases hf
                    exact x_iret hx hb hr hlocks hK hP hD hS dX8_whyNotReversed_127
                  · have hf := x_f c_77 hf
                    refine lv_aload_n hx hb dX8_whyNotReversed_107 rfl (lv_at hl 3 rfl) ?_
                    refine lv_aload_n hx hb dX8_whyNotReversed_108 rfl (lv_at hl 3 rfl) ?_
                    refine lv_iload_n hx hb dX8_whyNotReversed_109 rfl (lv_at hl 1 rfl) ?_
                    obtain ⟨r_78, h_79, hf⟩ := bd1_el hf
                    refine x_callVi (As := [.int r_6]) (rest := [.ref a0]) ⟨hx, hb, hml, hown, hts⟩ (mX8_find l D cy a0 a1 a2 a3 a4 a5 a6 st gr hi gh rc tx tl rk tb tk at_ ltr on_ tw th nu r_6 r_78 h_79) (cwV 1 hts (gcV_X8_find hbg wm_9_5) rfl rfl rfl kdX8_find ⟨Nat.le_of_ble_eq_true rfl, Nat.le_of_ble_eq_true rfl⟩) (w1 := []) (w2 := []) (w' := wX8 cy a0 a1 a2 a3 a4 a5 a6 st gr hi gh rc tx tl rk tb tk at_ ltr on_ tw th nu) (List.append_nil _) (List.append_nil _) hP hK hD hN hS hA (q0 := 0) rfl rfl rfl rfl hl rfl (Nat.le_of_ble_eq_true rfl) dX8_whyNotReversed_110 ⟨Nat.zero_le _, Nat.zero_le _⟩ (fun H locs hP hD hS => ?_)
                    refine lv_iload hx hb dX8_whyNotReversed_113 (lv_at hl 0 rfl) ?_
                    obtain ⟨r_80, h_81, hf⟩ := bd1_el hf
                    refine x_callVi (As := [.int r_78, .int r_63]) (rest := []) ⟨hx, hb, hml, hown, hts⟩ (mX8_hasRoom l D cy a0 a1 a2 a3 a4 a5 a6 st gr hi gh rc tx tl rk tb tk at_ ltr on_ tw th nu r_78 r_63 r_80 h_81) (cwV 2 hts (gcV_X8_hasRoom hbg wm_13_9) rfl rfl rfl kdX8_hasRoom ⟨Nat.le_of_ble_eq_true rfl, Nat.le_of_ble_eq_true rfl⟩) (w1 := []) (w2 := []) (w' := wX8 cy a0 a1 a2 a3 a4 a5 a6 st gr hi gh rc tx tl rk tb tk at_ ltr on_ tw th nu) (List.append_nil _) (List.append_nil _) hP hK hD hN hS hA (q0 := 0) rfl rfl rfl rfl hl rfl (Nat.le_of_ble_eq_true rfl) dX8_whyNotReversed_115 ⟨Nat.zero_le _, Nat.zero_le _⟩ (fun H locs hP hD hS => ?_)
                    refine lv_if_eq (tgt := 125) hx hb dX8_whyNotReversed_118 (by decide) (fun c_82 => ?_) (fun c_82 => ?_)
                    · have hf := x_t c_82 hf
                      refine lv_bipush (v := (-4)) hx hb dX8_whyNotReversed_125 (by decide) ?_
                      have hf := Option.some.inj hf
                      cases hf
                      exact x_iret hx hb hr hlocks hK hP hD hS dX8_whyNotReversed_127
                    · have hf := x_f c_82 hf
                      refine lv_iconst (v := 0) hx hb dX8_whyNotReversed_121 (by decide) ?_
                      refine lv_goto (tgt := 127) hx hb dX8_whyNotReversed_122 (by decide) ?_
                      have hf := Option.some.inj hf
                      cases hf
                      exact x_iret hx hb hr hlocks hK hP hD hS dX8_whyNotReversed_127
                · have hf := x_f c_76 hf
                  refine lv_bipush (v := (-3)) hx hb dX8_whyNotReversed_100 (by decide) ?_
                  have hf := Option.some.inj hf
                  cases hf
                  exact x_iret hx hb hr hlocks hK hP hD hS dX8_whyNotReversed_102
            · have hf := x_f c_62 hf
              refine lv_aload_n hx hb dX8_whyNotReversed_61 rfl (lv_at hl 2 rfl) ?_
              refine lv_iload_n hx hb dX8_whyNotReversed_62 rfl (lv_at hl 0 rfl) ?_
              obtain ⟨r_83, h_84, hf⟩ := bd1_el hf
              refine x_callVi (As := [.int r_6]) (rest := []) ⟨hx, hb, hml, hown, hts⟩ (mX8_find l D cy a0 a1 a2 a3 a4 a5 a6 st gr hi gh rc tx tl rk tb tk at_ ltr on_ tw th nu r_6 r_83 h_84) (cwV 1 hts (gcV_X8_find hbg wm_9_5) rfl rfl rfl kdX8_find ⟨Nat.le_of_ble_eq_true rfl, Nat.le_of_ble_eq_true rfl⟩) (w1 := []) (w2 := []) (w' := wX8 cy a0 a1 a2 a3 a4 a5 a6 st gr hi gh rc tx tl rk tb tk at_ ltr on_ tw th nu) (List.append_nil _) (List.append_nil _) hP hK hD hN hS hA (q0 := 0) rfl rfl rfl rfl hl rfl (Nat.le_of_ble_eq_true rfl) dX8_whyNotReversed_63 ⟨Nat.zero_le _, Nat.zero_le _⟩ (fun H locs hP hD hS => ?_)
              refine lv_bipush (v := (-6)) hx hb dX8_whyNotReversed_66 (by decide) ?_
              refine lv_icmp_ne (tgt := 74) hx hb dX8_whyNotReversed_68 (by decide) (fun c_85 => ?_) (fun c_85 => ?_)
              · have hf := x_f c_85 hf
                refine lv_aload_n hx hb dX8_whyNotReversed_74 rfl (lv_at hl 2 rfl) ?_
                refine lv_iload_n hx hb dX8_whyNotReversed_75 rfl (lv_at hl 3 rfl) ?_
                refine lv_iconst (v := 4) hx hb dX8_whyNotReversed_76 (by decide) ?_
                obtain ⟨r_86, h_87, hf⟩ := bd1_el hf
                refine x_callVi (As := [.int p1, .int 4]) (rest := []) ⟨hx, hb, hml, hown, hts⟩ (mX8_entryPart l D cy a0 a1 a2 a3 a4 a5 a6 st gr hi gh rc tx tl rk tb tk at_ ltr on_ tw th nu p1 4 r_86 h_87) (cwV 2 hts (gcV_X8_entryPart hbg wm_25_18) rfl rfl rfl kdX8_entryPart ⟨Nat.le_of_ble_eq_true rfl, Nat.le_of_ble_eq_true rfl⟩) (w1 := []) (w2 := []) (w' := wX8 cy a0 a1 a2 a3 a4 a5 a6 st gr hi gh rc tx tl rk tb tk at_ ltr on_ tw th nu) (List.append_nil _) (List.append_nil _) hP hK hD hN hS hA (q0 := 0) rfl rfl rfl rfl hl rfl (Nat.le_of_ble_eq_true rfl) dX8_whyNotReversed_77 ⟨Nat.zero_le _, Nat.zero_le _⟩ (fun H locs hP hD hS => ?_)
                refine lv_istore (lv' := [(4, .int r_86), (3, .int r_6), (2, .int r_4), (0, .ref a0), (1, .int p1)]) hx hb dX8_whyNotReversed_80 hl (by decide) rfl (fun ls hl => ?_)
                refine lv_iload_n hx hb dX8_whyNotReversed_82 rfl (lv_at hl 2 rfl) ?_
                refine lv_if_le (tgt := 103) hx hb dX8_whyNotReversed_83 (by decide) (fun c_88 => ?_) (fun c_88 => ?_)
                · have hf := x_t c_88 hf
                  refine lv_iload_n hx hb dX8_whyNotReversed_103 rfl (lv_at hl 1 rfl) ?_
                  refine lv_if_eq (tgt := 121) hx hb dX8_whyNotReversed_104 (by decide) (fun c_89 => ?_) (fun c_89 => ?_)
                  · have hf := x_t c_89 hf
                    refine lv_iconst (v := 0) hx hb dX8_whyNotReversed_121 (by decide) ?_
                    refine lv_goto (tgt := 127) hx hb dX8_whyNotReversed_122 (by decide) ?_
                    have hf := Option.some.inj hf
                    cases hf
                    exact x_iret hx hb hr hlocks hK hP hD hS dX8_whyNotReversed_127
                  · have hf := x_f c_89 hf
                    refine lv_aload_n hx hb dX8_whyNotReversed_107 rfl (lv_at hl 3 rfl) ?_
                    refine lv_aload_n hx hb dX8_whyNotReversed_108 rfl (lv_at hl 3 rfl) ?_
                    refine lv_iload_n hx hb dX8_whyNotReversed_109 rfl (lv_at hl 1 rfl) ?_
                    obtain ⟨r_90, h_91, hf⟩ := bd1_el hf
                    refine x_callVi (As := [.int r_6]) (rest := [.ref a0]) ⟨hx, hb, hml, hown, hts⟩ (mX8_find l D cy a0 a1 a2 a3 a4 a5 a6 st gr hi gh rc tx tl rk tb tk at_ ltr on_ tw th nu r_6 r_90 h_91) (cwV 1 hts (gcV_X8_find hbg wm_9_5) rfl rfl rfl kdX8_find ⟨Nat.le_of_ble_eq_true rfl, Nat.le_of_ble_eq_true rfl⟩) (w1 := []) (w2 := []) (w' := wX8 cy a0 a1 a2 a3 a4 a5 a6 st gr hi gh rc tx tl rk tb tk at_ ltr on_ tw th nu) (List.append_nil _) (List.append_nil _) hP hK hD hN hS hA (q0 := 0) rfl rfl rfl rfl hl rfl (Nat.le_of_ble_eq_true rfl) dX8_whyNotReversed_110 ⟨Nat.zero_le _, Nat.zero_le _⟩ (fun H locs hP hD hS => ?_)
                    refine lv_iload hx hb dX8_whyNotReversed_113 (lv_at hl 0 rfl) ?_
                    obtain ⟨r_92, h_93, hf⟩ := bd1_el hf
                    refine x_callVi (As := [.int r_90, .int r_86]) (rest := []) ⟨hx, hb, hml, hown, hts⟩ (mX8_hasRoom l D cy a0 a1 a2 a3 a4 a5 a6 st gr hi gh rc tx tl rk tb tk at_ ltr on_ tw th nu r_90 r_86 r_92 h_93) (cwV 2 hts (gcV_X8_hasRoom hbg wm_13_9) rfl rfl rfl kdX8_hasRoom ⟨Nat.le_of_ble_eq_true rfl, Nat.le_of_ble_eq_true rfl⟩) (w1 := []) (w2 := []) (w' := wX8 cy a0 a1 a2 a3 a4 a5 a6 st gr hi gh rc tx tl rk tb tk at_ ltr on_ tw th nu) (List.append_nil _) (List.append_nil _) hP hK hD hN hS hA (q0 := 0) rfl rfl rfl rfl hl rfl (Nat.le_of_ble_eq_true rfl) dX8_whyNotReversed_115 ⟨Nat.zero_le _, Nat.zero_le _⟩ (fun H locs hP hD hS => ?_)
                    refine lv_if_eq (tgt := 125) hx hb dX8_whyNotReversed_118 (by decide) (fun c_94 => ?_) (fun c_94 => ?_)
                    · have hf := x_t c_94 hf
                      refine lv_bipush (v := (-4)) hx hb dX8_whyNotReversed_125 (by decide) ?_
                      have hf := Option.some.inj hf
                      cases hf
                      exact x_iret hx hb hr hlocks hK hP hD hS dX8_whyNotReversed_127
                    · have hf := x_f c_94 hf
                      refine lv_iconst (v := 0) hx hb dX8_whyNotReversed_121 (by decide) ?_
                      refine lv_goto (tgt := 127) hx hb dX8_whyNotReversed_122 (by decide) ?_
                      have hf := Option.some.inj hf
                      cases hf
                      exact x_iret hx hb hr hlocks hK hP hD hS dX8_whyNotReversed_127
                · have hf := x_f c_88 hf
                  refine lv_aload_n hx hb dX8_whyNotReversed_86 rfl (lv_at hl 3 rfl) ?_
                  refine lv_aload_n hx hb dX8_whyNotReversed_87 rfl (lv_at hl 3 rfl) ?_
                  refine lv_iload_n hx hb dX8_whyNotReversed_88 rfl (lv_at hl 2 rfl) ?_
                  obtain ⟨r_95, h_96, hf⟩ := bd1_el hf
                  refine x_callVi (As := [.int r_4]) (rest := [.ref a0]) ⟨hx, hb, hml, hown, hts⟩ (mX8_find l D cy a0 a1 a2 a3 a4 a5 a6 st gr hi gh rc tx tl rk tb tk at_ ltr on_ tw th nu r_4 r_95 h_96) (cwV 1 hts (gcV_X8_find hbg wm_9_5) rfl rfl rfl kdX8_find ⟨Nat.le_of_ble_eq_true rfl, Nat.le_of_ble_eq_true rfl⟩) (w1 := []) (w2 := []) (w' := wX8 cy a0 a1 a2 a3 a4 a5 a6 st gr hi gh rc tx tl rk tb tk at_ ltr on_ tw th nu) (List.append_nil _) (List.append_nil _) hP hK hD hN hS hA (q0 := 0) rfl rfl rfl rfl hl rfl (Nat.le_of_ble_eq_true rfl) dX8_whyNotReversed_89 ⟨Nat.zero_le _, Nat.zero_le _⟩ (fun H locs hP hD hS => ?_)
                  obtain ⟨r_97, h_98, hf⟩ := bd1_el hf
                  refine x_callVi (As := [.int r_95]) (rest := []) ⟨hx, hb, hml, hown, hts⟩ (mX8_free l D cy a0 a1 a2 a3 a4 a5 a6 st gr hi gh rc tx tl rk tb tk at_ ltr on_ tw th nu r_95 r_97 h_98) (cwV 1 hts (gcV_X8_free hbg wm_15_8) rfl rfl rfl kdX8_free ⟨Nat.le_of_ble_eq_true rfl, Nat.le_of_ble_eq_true rfl⟩) (w1 := []) (w2 := []) (w' := wX8 cy a0 a1 a2 a3 a4 a5 a6 st gr hi gh rc tx tl rk tb tk at_ ltr on_ tw th nu) (List.append_nil _) (List.append_nil _) hP hK hD hN hS hA (q0 := 0) rfl rfl rfl rfl hl rfl (Nat.le_of_ble_eq_true rfl) dX8_whyNotReversed_92 ⟨Nat.zero_le _, Nat.zero_le _⟩ (fun H locs hP hD hS => ?_)
                  refine lv_iload hx hb dX8_whyNotReversed_95 (lv_at hl 0 rfl) ?_
                  refine lv_icmp_ge (tgt := 103) hx hb dX8_whyNotReversed_97 (by decide) (fun c_99 => ?_) (fun c_99 => ?_)
                  · have hf := x_t c_99 hf
                    refine lv_iload_n hx hb dX8_whyNotReversed_103 rfl (lv_at hl 1 rfl) ?_
                    refine lv_if_eq (tgt := 121) hx hb dX8_whyNotReversed_104 (by decide) (fun c_100 => ?_) (fun c_100 => ?_)
                    · have hf := x_t c_100 hf
                      refine lv_iconst (v := 0) hx hb dX8_whyNotReversed_121 (by decide) ?_
                      refine lv_goto (tgt := 127) hx hb dX8_whyNotReversed_122 (by decide) ?_
                      have hf := Option.some.inj hf
                      cases hf
                      exact x_iret hx hb hr hlocks hK hP hD hS dX8_whyNotReversed_127
                    · have hf := x_f c_100 hf
                      refine lv_aload_n hx hb dX8_whyNotReversed_107 rfl (lv_at hl 3 rfl) ?_
                      refine lv_aload_n hx hb dX8_whyNotReversed_108 rfl (lv_at hl 3 rfl) ?_
                      refine lv_iload_n hx hb dX8_whyNotReversed_109 rfl (lv_at hl 1 rfl) ?_
                      obtain ⟨r_101, h_102, hf⟩ := bd1_el hf
                      refine x_callVi (As := [.int r_6]) (rest := [.ref a0]) ⟨hx, hb, hml, hown, hts⟩ (mX8_find l D cy a0 a1 a2 a3 a4 a5 a6 st gr hi gh rc tx tl rk tb tk at_ ltr on_ tw th nu r_6 r_101 h_102) (cwV 1 hts (gcV_X8_find hbg wm_9_5) rfl rfl rfl kdX8_find ⟨Nat.le_of_ble_eq_true rfl, Nat.le_of_ble_eq_true rfl⟩) (w1 := []) (w2 := []) (w' := wX8 cy a0 a1 a2 a3 a4 a5 a6 st gr hi gh rc tx tl rk tb tk at_ ltr on_ tw th nu) (List.append_nil _) (List.append_nil _) hP hK hD hN hS hA (q0 := 0) rfl rfl rfl rfl hl rfl (Nat.le_of_ble_eq_true rfl) dX8_whyNotReversed_110 ⟨Nat.zero_le _, Nat.zero_le _⟩ (fun H locs hP hD hS => ?_)
                      refine lv_iload hx hb dX8_whyNotReversed_113 (lv_at hl 0 rfl) ?_
                      obtain ⟨r_103, h_104, hf⟩ := bd1_el hf
                      refine x_callVi (As := [.int r_101, .int r_86]) (rest := []) ⟨hx, hb, hml, hown, hts⟩ (mX8_hasRoom l D cy a0 a1 a2 a3 a4 a5 a6 st gr hi gh rc tx tl rk tb tk at_ ltr on_ tw th nu r_101 r_86 r_103 h_104) (cwV 2 hts (gcV_X8_hasRoom hbg wm_13_9) rfl rfl rfl kdX8_hasRoom ⟨Nat.le_of_ble_eq_true rfl, Nat.le_of_ble_eq_true rfl⟩) (w1 := []) (w2 := []) (w' := wX8 cy a0 a1 a2 a3 a4 a5 a6 st gr hi gh rc tx tl rk tb tk at_ ltr on_ tw th nu) (List.append_nil _) (List.append_nil _) hP hK hD hN hS hA (q0 := 0) rfl rfl rfl rfl hl rfl (Nat.le_of_ble_eq_true rfl) dX8_whyNotReversed_115 ⟨Nat.zero_le _, Nat.zero_le _⟩ (fun H locs hP hD hS => ?_)
                      refine lv_if_eq (tgt := 125) hx hb dX8_whyNotReversed_118 (by decide) (fun c_105 => ?_) (fun c_105 => ?_)
                      · have hf := x_t c_105 hf
                        refine lv_bipush (v := (-4)) hx hb dX8_whyNotReversed_125 (by decide) ?_
                        have hf := Option.some.inj hf
                        cases hf
                        exact x_iret hx hb hr hlocks hK hP hD hS dX8_whyNotReversed_127
                      · have hf := x_f c_105 hf
                        refine lv_iconst (v := 0) hx hb dX8_whyNotReversed_121 (by decide) ?_
                        refine lv_goto (tgt := 127) hx hb dX8_whyNotReversed_122 (by decide) ?_
                        have hf := Option.some.inj hf
                        cases hf
                        exact x_iret hx hb hr hlocks hK hP hD hS dX8_whyNotReversed_127
                  · have hf := x_f c_99 hf
                    refine lv_bipush (v := (-3)) hx hb dX8_whyNotReversed_100 (by decide) ?_
                    have hf := Option.some.inj hf
                    cases hf
                    exact x_iret hx hb hr hlocks hK hP hD hS dX8_whyNotReversed_102
              · have hf := x_t c_85 hf
                refine lv_bipush (v := (-3)) hx hb dX8_whyNotReversed_71 (by decide) ?_
                have hf := Option.some.inj hf
                cases hf
                exact x_iret hx hb hr hlocks hK hP hD hS dX8_whyNotReversed_73
  · have hf := x_t c_3 hf
    refine lv_iconst (v := (-1)) hx hb dX8_whyNotReversed_8 (by decide) ?_
    have hf := Option.some.inj hf
    cases hf
    exact x_iret hx hb hr hlocks hK hP hD hS dX8_whyNotReversed_9
theorem kdX8_reverse : yX8_reverse.cls = RX8 ∧ yX8_reverse.cls ≠ "java/lang/invoke/MethodHandle" ∧ yX8_reverse.cls ≠ "java/lang/invoke/VarHandle" ∧ (parseMethodDescriptor yX8_reverse.desc).map (fun d => d.parameters.length) = some 1 := by decide +kernel
def rmX8_reverse : Room := { frames := 5, cells := 0, slots := 0, locals := 112 }
set_option maxHeartbeats 4000000 in
set_option maxRecDepth 100000 in
theorem mX8_reverse (l : Launch) (D : va_G) (cy : Nat → ClassId) (a0 a1 a2 a3 a4 a5 a6 : Nat) (st : Nat → Int32) (gr : Nat → Int64) (hi : Nat → Int32) (gh : Nat → Int64) (rc : Int32) (tx : Nat → Int32) (tl : Int32) (rk : Nat → Int32) (tb : Int32) (tk : Int64) (at_ : Int32) (ltr : Int32) (on_ : Int32) (tw : Int32) (th : Int32) (nu : Int32) (p1 : Int32) (r : Int32) (st' : Nat → Int32) (gr' : Nat → Int64) (hi' : Nat → Int32) (gh' : Nat → Int64) (rc' : Int32) (hf : fX8_reverse st gr hi gh rc p1 = some (r, st', gr', hi', gh', rc')) : xMi l D cy yX8_reverse aX8_reverse rmX8_reverse ([.ref a0, .int p1] : List Value) (wX8 cy a0 a1 a2 a3 a4 a5 a6 st gr hi gh rc tx tl rk tb tk at_ ltr on_ tw th nu) (wX8 cy a0 a1 a2 a3 a4 a5 a6 st' gr' hi' gh' rc' tx tl rk tb tk at_ ltr on_ tw th nu) r := by
  intro hz
  refine x_start (Qc := xQi D cy _ r) (cc := cX8_reverse) (maxL := 6) (ret := (some .int)) (by decide) rfl (Nat.le_of_ble_eq_true rfl) (lv := [(0, .ref a0), (1, .int p1)]) rfl ?_
  intro p e s m below meth c ls A hx hb hr hml hown hts hlocks hK hP hD hS hA hN hl
  have hown : s.vm.findClass RX8 = some m.cls := hown
  have hbg : ∀ w ∈ wsL_law, w ∈ aX8_reverse := fun w h => List.mem_cons_of_mem _ h
  have wd0 : (Cond.fieldLink RX8 13 "ClientMoneyBookModel" "great" "[J").before ([.ref a0, .int p1] : List Value).toArray s = true := hts _ (List.mem_cons_of_mem _ wm_4_10)
  have wd1 : (Cond.fieldLink RX8 7 "ClientMoneyBookModel" "state" "[I").before ([.ref a0, .int p1] : List Value).toArray s = true := hts _ (List.mem_cons_of_mem _ wm_4_9)
  have iX8 : ∀ w ∈ u_ws RX8 TX8 16, w ∈ aX8_reverse := fun w h => List.mem_cons_of_mem _ (inlX8 w h)
  have hfX8_reverse_J124 : ∀ (st : Nat → Int32) (gr : Nat → Int64) (hi : Nat → Int32) (gh : Nat → Int64) (rc : Int32) (u1 : Int32) (u5 : Int32) (s0 : Int64) (s1 : Int64) (s2 : Int32) (H : Heap) (locs : List Loc) (ls : Array Slot), fX8_reverse_J124 st gr hi gh rc u1 u5 s0 s1 s2 = some (r, st', gr', hi', gh', rc') → va_P D vwCl (wX8 cy a0 a1 a2 a3 a4 a5 a6 st gr hi gh rc tx tl rk tb tk at_ ltr on_ tw th nu) H → va_D A (wX8 cy a0 a1 a2 a3 a4 a5 a6 st gr hi gh rc tx tl rk tb tk at_ ltr on_ tw th nu) → va_S A s.heap H locs → lv_has ls 6 [(0, .ref a0), (1, .int u1), (5, .int u5)] → W p l e rmX8_reverse s m ([.ref a0, .int p1] : List Value).toArray below meth c H locs 0 0 (MQ below (xQi D cy (wX8 cy a0 a1 a2 a3 a4 a5 a6 st' gr' hi' gh' rc' tx tl rk tb tk at_ ltr on_ tw th nu) r A) ([.ref a0, .int p1] : List Value).toArray s 0 0 A) (F0 m 124 ls [.long s0, .long s1, .int s2, .ref a2]) := by
    intro st gr hi gh rc u1 u5 s0 s1 s2 H locs ls hf hP hD hS hl
    unfold fX8_reverse_J124 at hf
    refine lv_lsub hx hb dX8_reverse_124 ?_
    obtain ⟨hi_26, hf⟩ := ckI_el hf
    obtain ⟨gr_27, egr_27, hf⟩ := lt_el hf
    refine x_last hx hb hK hP hD hS 2 rfl hi_26 egr_27 (w' := wX8 cy a0 a1 a2 a3 a4 a5 a6 st gr_27 hi gh rc tx tl rk tb tk at_ ltr on_ tw th nu) rfl dX8_reverse_125 (fun H locs hP hD hS => ?_)
    refine lv_aload_n hx hb dX8_reverse_126 rfl (lv_at hl 0 rfl) ?_
    refine x_get hx hb (C := RX8) (T := TX8) (N := 16) (ci := 8) hts iX8 hown hK hP 0 rfl rfl 0 (by decide) wd1 rfl (.ref a1) rfl dX8_reverse_127 ?_
    refine lv_sipush (v := 168) hx hb dX8_reverse_130 (by decide) ?_
    refine lv_bipush (v := 7) hx hb dX8_reverse_133 (by decide) ?_
    refine lv_iload_n hx hb dX8_reverse_135 rfl (lv_at hl 1 rfl) ?_
    refine lv_iconst (v := 1) hx hb dX8_reverse_136 (by decide) ?_
    refine lv_isub hx hb dX8_reverse_137 ?_
    refine lv_bipush (v := 24) hx hb dX8_reverse_138 (by decide) ?_
    refine lv_irem hx hb dX8_reverse_140 (by decide) ?_
    refine lv_imul hx hb dX8_reverse_141 ?_
    refine lv_iadd hx hb dX8_reverse_142 ?_
    refine lv_bipush (v := 6) hx hb dX8_reverse_143 (by decide) ?_
    refine lv_iadd hx hb dX8_reverse_145 ?_
    refine lv_iconst (v := 1) hx hb dX8_reverse_146 (by decide) ?_
    obtain ⟨hi_28, hf⟩ := ckI_el hf
    obtain ⟨st_29, est_29, hf⟩ := lt_el hf
    refine x_iast hx hb hK hP hD hS 1 rfl hi_28 est_29 (w' := wX8 cy a0 a1 a2 a3 a4 a5 a6 st_29 gr_27 hi gh rc tx tl rk tb tk at_ ltr on_ tw th nu) rfl dX8_reverse_147 (fun H locs hP hD hS => ?_)
    refine lv_aload_n hx hb dX8_reverse_148 rfl (lv_at hl 0 rfl) ?_
    refine lv_bipush (v := 6) hx hb dX8_reverse_149 (by decide) ?_
    refine lv_aload_n hx hb dX8_reverse_151 rfl (lv_at hl 0 rfl) ?_
    refine lv_iload_n hx hb dX8_reverse_152 rfl (lv_at hl 1 rfl) ?_
    refine lv_iconst (v := 2) hx hb dX8_reverse_153 (by decide) ?_
    obtain ⟨r_30, h_31, hf⟩ := bd1_el hf
    refine x_callVi (As := [.int u1, .int 2]) (rest := [.int 6, .ref a0]) ⟨hx, hb, hml, hown, hts⟩ (mX8_entryPart l D cy a0 a1 a2 a3 a4 a5 a6 st_29 gr_27 hi gh rc tx tl rk tb tk at_ ltr on_ tw th nu u1 2 r_30 h_31) (cwV 2 hts (gcV_X8_entryPart hbg wm_25_18) rfl rfl rfl kdX8_entryPart ⟨Nat.le_of_ble_eq_true rfl, Nat.le_of_ble_eq_true rfl⟩) (w1 := []) (w2 := []) (w' := wX8 cy a0 a1 a2 a3 a4 a5 a6 st_29 gr_27 hi gh rc tx tl rk tb tk at_ ltr on_ tw th nu) (List.append_nil _) (List.append_nil _) hP hK hD hN hS hA (q0 := 0) rfl rfl rfl rfl hl rfl (Nat.le_of_ble_eq_true rfl) dX8_reverse_154 ⟨Nat.zero_le _, Nat.zero_le _⟩ (fun H locs hP hD hS => ?_)
    refine lv_aload_n hx hb dX8_reverse_157 rfl (lv_at hl 0 rfl) ?_
    refine lv_iload_n hx hb dX8_reverse_158 rfl (lv_at hl 1 rfl) ?_
    refine lv_iconst (v := 3) hx hb dX8_reverse_159 (by decide) ?_
    obtain ⟨r_32, h_33, hf⟩ := bd1_el hf
    refine x_callVi (As := [.int u1, .int 3]) (rest := [.int r_30, .int 6, .ref a0]) ⟨hx, hb, hml, hown, hts⟩ (mX8_entryPart l D cy a0 a1 a2 a3 a4 a5 a6 st_29 gr_27 hi gh rc tx tl rk tb tk at_ ltr on_ tw th nu u1 3 r_32 h_33) (cwV 2 hts (gcV_X8_entryPart hbg wm_25_18) rfl rfl rfl kdX8_entryPart ⟨Nat.le_of_ble_eq_true rfl, Nat.le_of_ble_eq_true rfl⟩) (w1 := []) (w2 := []) (w' := wX8 cy a0 a1 a2 a3 a4 a5 a6 st_29 gr_27 hi gh rc tx tl rk tb tk at_ ltr on_ tw th nu) (List.append_nil _) (List.append_nil _) hP hK hD hN hS hA (q0 := 0) rfl rfl rfl rfl hl rfl (Nat.le_of_ble_eq_true rfl) dX8_reverse_160 ⟨Nat.zero_le _, Nat.zero_le _⟩ (fun H locs hP hD hS => ?_)
    refine lv_iload hx hb dX8_reverse_163 (lv_at hl 2 rfl) ?_
    obtain ⟨r_34, st_35, h_36, hf⟩ := bd2_el hf
    refine x_callVi (As := [.int 6, .int r_30, .int r_32, .int u5]) (rest := []) ⟨hx, hb, hml, hown, hts⟩ (mX8_enters l D cy a0 a1 a2 a3 a4 a5 a6 st_29 gr_27 hi gh rc tx tl rk tb tk at_ ltr on_ tw th nu 6 r_30 r_32 u5 r_34 st_35 h_36) (cwV 4 hts (gcV_X8_enters hbg wm_13_21) rfl rfl rfl kdX8_enters ⟨Nat.le_of_ble_eq_true rfl, Nat.le_of_ble_eq_true rfl⟩) (w1 := []) (w2 := []) (w' := wX8 cy a0 a1 a2 a3 a4 a5 a6 st_35 gr_27 hi gh rc tx tl rk tb tk at_ ltr on_ tw th nu) (List.append_nil _) (List.append_nil _) hP hK hD hN hS hA (q0 := 0) rfl rfl rfl rfl hl rfl (Nat.le_of_ble_eq_true rfl) dX8_reverse_165 ⟨Nat.zero_le _, Nat.zero_le _⟩ (fun H locs hP hD hS => ?_)
    have hf := Option.some.inj hf
    cases hf
    exact x_iret hx hb hr hlocks hK hP hD hS dX8_reverse_168
  have hfX8_reverse_J97 : ∀ (st : Nat → Int32) (gr : Nat → Int64) (hi : Nat → Int32) (gh : Nat → Int64) (rc : Int32) (u1 : Int32) (u5 : Int32) (s0 : Int64) (s1 : Int64) (s2 : Int32) (H : Heap) (locs : List Loc) (ls : Array Slot), fX8_reverse_J97 st gr hi gh rc u1 u5 s0 s1 s2 = some (r, st', gr', hi', gh', rc') → va_P D vwCl (wX8 cy a0 a1 a2 a3 a4 a5 a6 st gr hi gh rc tx tl rk tb tk at_ ltr on_ tw th nu) H → va_D A (wX8 cy a0 a1 a2 a3 a4 a5 a6 st gr hi gh rc tx tl rk tb tk at_ ltr on_ tw th nu) → va_S A s.heap H locs → lv_has ls 6 [(0, .ref a0), (1, .int u1), (5, .int u5)] → W p l e rmX8_reverse s m ([.ref a0, .int p1] : List Value).toArray below meth c H locs 0 0 (MQ below (xQi D cy (wX8 cy a0 a1 a2 a3 a4 a5 a6 st' gr' hi' gh' rc' tx tl rk tb tk at_ ltr on_ tw th nu) r A) ([.ref a0, .int p1] : List Value).toArray s 0 0 A) (F0 m 97 ls [.long s0, .long s1, .int s2, .ref a2]) := by
    intro st gr hi gh rc u1 u5 s0 s1 s2 H locs ls hf hP hD hS hl
    unfold fX8_reverse_J97 at hf
    refine lv_lsub hx hb dX8_reverse_97 ?_
    obtain ⟨hi_20, hf⟩ := ckI_el hf
    obtain ⟨gr_21, egr_21, hf⟩ := lt_el hf
    refine x_last hx hb hK hP hD hS 2 rfl hi_20 egr_21 (w' := wX8 cy a0 a1 a2 a3 a4 a5 a6 st gr_21 hi gh rc tx tl rk tb tk at_ ltr on_ tw th nu) rfl dX8_reverse_98 (fun H locs hP hD hS => ?_)
    refine lv_aload_n hx hb dX8_reverse_99 rfl (lv_at hl 0 rfl) ?_
    refine x_get hx hb (C := RX8) (T := TX8) (N := 16) (ci := 8) hts iX8 hown hK hP 0 rfl rfl 1 (by decide) wd0 rfl (.ref a2) rfl dX8_reverse_100 ?_
    refine lv_bipush (v := 15) hx hb dX8_reverse_103 (by decide) ?_
    refine lv_dup2_11 hx hb dX8_reverse_105 rfl rfl ?_
    obtain ⟨hi_22, hf⟩ := ckI_el hf
    refine va_lald hx hb hK hP 2 2 rfl rfl hi_22 dX8_reverse_106 ?_
    refine lv_aload_n hx hb dX8_reverse_107 rfl (lv_at hl 0 rfl) ?_
    refine lv_iload_n hx hb dX8_reverse_108 rfl (lv_at hl 1 rfl) ?_
    refine lv_iconst (v := 1) hx hb dX8_reverse_109 (by decide) ?_
    obtain ⟨r_23, h_24, hf⟩ := bd1_el hf
    refine x_callVi (As := [.int u1, .int 1]) (rest := [.long (gr_21 (15 : Int32).toNatClampNeg), .int 15, .ref a2]) ⟨hx, hb, hml, hown, hts⟩ (mX8_entryPart l D cy a0 a1 a2 a3 a4 a5 a6 st gr_21 hi gh rc tx tl rk tb tk at_ ltr on_ tw th nu u1 1 r_23 h_24) (cwV 2 hts (gcV_X8_entryPart hbg wm_25_18) rfl rfl rfl kdX8_entryPart ⟨Nat.le_of_ble_eq_true rfl, Nat.le_of_ble_eq_true rfl⟩) (w1 := []) (w2 := []) (w' := wX8 cy a0 a1 a2 a3 a4 a5 a6 st gr_21 hi gh rc tx tl rk tb tk at_ ltr on_ tw th nu) (List.append_nil _) (List.append_nil _) hP hK hD hN hS hA (q0 := 0) rfl rfl rfl rfl hl rfl (Nat.le_of_ble_eq_true rfl) dX8_reverse_110 ⟨Nat.zero_le _, Nat.zero_le _⟩ (fun H locs hP hD hS => ?_)
    refine lv_iconst (v := 2) hx hb dX8_reverse_113 (by decide) ?_
    refine lv_icmp_ne (tgt := 123) hx hb dX8_reverse_114 (by decide) (fun c_25 => ?_) (fun c_25 => ?_)
    · have hf := x_f c_25 hf
      refine lv_lconst (v := 0) hx hb dX8_reverse_123 (by decide) ?_
      exact hfX8_reverse_J124 st gr_21 hi gh rc u1 u5 0 (gr_21 (15 : Int32).toNatClampNeg) 15 _ _ _ hf hP hD hS (lv_sub hl [0, 1, 2] rfl)
    · have hf := x_t c_25 hf
      refine lv_iload hx hb dX8_reverse_117 (lv_at hl 2 rfl) ?_
      refine lv_i2l (v := u5.toInt64) hx hb dX8_reverse_119 rfl ?_
      refine lv_goto (tgt := 124) hx hb dX8_reverse_120 (by decide) ?_
      exact hfX8_reverse_J124 st gr_21 hi gh rc u1 u5 u5.toInt64 (gr_21 (15 : Int32).toNatClampNeg) 15 _ _ _ hf hP hD hS (lv_sub hl [0, 1, 2] rfl)
  have hfX8_reverse_J72 : ∀ (st : Nat → Int32) (gr : Nat → Int64) (hi : Nat → Int32) (gh : Nat → Int64) (rc : Int32) (u1 : Int32) (u5 : Int32) (H : Heap) (locs : List Loc) (ls : Array Slot), fX8_reverse_J72 st gr hi gh rc u1 u5 = some (r, st', gr', hi', gh', rc') → va_P D vwCl (wX8 cy a0 a1 a2 a3 a4 a5 a6 st gr hi gh rc tx tl rk tb tk at_ ltr on_ tw th nu) H → va_D A (wX8 cy a0 a1 a2 a3 a4 a5 a6 st gr hi gh rc tx tl rk tb tk at_ ltr on_ tw th nu) → va_S A s.heap H locs → lv_has ls 6 [(0, .ref a0), (1, .int u1), (5, .int u5)] → W p l e rmX8_reverse s m ([.ref a0, .int p1] : List Value).toArray below meth c H locs 0 0 (MQ below (xQi D cy (wX8 cy a0 a1 a2 a3 a4 a5 a6 st' gr' hi' gh' rc' tx tl rk tb tk at_ ltr on_ tw th nu) r A) ([.ref a0, .int p1] : List Value).toArray s 0 0 A) (F0 m 72 ls []) := by
    intro st gr hi gh rc u1 u5 H locs ls hf hP hD hS hl
    unfold fX8_reverse_J72 at hf
    refine lv_aload_n hx hb dX8_reverse_72 rfl (lv_at hl 0 rfl) ?_
    refine x_get hx hb (C := RX8) (T := TX8) (N := 16) (ci := 8) hts iX8 hown hK hP 0 rfl rfl 1 (by decide) wd0 rfl (.ref a2) rfl dX8_reverse_73 ?_
    refine lv_bipush (v := 14) hx hb dX8_reverse_76 (by decide) ?_
    refine lv_dup2_11 hx hb dX8_reverse_78 rfl rfl ?_
    obtain ⟨hi_16, hf⟩ := ckI_el hf
    refine va_lald hx hb hK hP 2 2 rfl rfl hi_16 dX8_reverse_79 ?_
    refine lv_aload_n hx hb dX8_reverse_80 rfl (lv_at hl 0 rfl) ?_
    refine lv_iload_n hx hb dX8_reverse_81 rfl (lv_at hl 1 rfl) ?_
    refine lv_iconst (v := 1) hx hb dX8_reverse_82 (by decide) ?_
    obtain ⟨r_17, h_18, hf⟩ := bd1_el hf
    refine x_callVi (As := [.int u1, .int 1]) (rest := [.long (gr (14 : Int32).toNatClampNeg), .int 14, .ref a2]) ⟨hx, hb, hml, hown, hts⟩ (mX8_entryPart l D cy a0 a1 a2 a3 a4 a5 a6 st gr hi gh rc tx tl rk tb tk at_ ltr on_ tw th nu u1 1 r_17 h_18) (cwV 2 hts (gcV_X8_entryPart hbg wm_25_18) rfl rfl rfl kdX8_entryPart ⟨Nat.le_of_ble_eq_true rfl, Nat.le_of_ble_eq_true rfl⟩) (w1 := []) (w2 := []) (w' := wX8 cy a0 a1 a2 a3 a4 a5 a6 st gr hi gh rc tx tl rk tb tk at_ ltr on_ tw th nu) (List.append_nil _) (List.append_nil _) hP hK hD hN hS hA (q0 := 0) rfl rfl rfl rfl hl rfl (Nat.le_of_ble_eq_true rfl) dX8_reverse_83 ⟨Nat.zero_le _, Nat.zero_le _⟩ (fun H locs hP hD hS => ?_)
    refine lv_iconst (v := 1) hx hb dX8_reverse_86 (by decide) ?_
    refine lv_icmp_ne (tgt := 96) hx hb dX8_reverse_87 (by decide) (fun c_19 => ?_) (fun c_19 => ?_)
    · have hf := x_f c_19 hf
      refine lv_lconst (v := 0) hx hb dX8_reverse_96 (by decide) ?_
      exact hfX8_reverse_J97 st gr hi gh rc u1 u5 0 (gr (14 : Int32).toNatClampNeg) 14 _ _ _ hf hP hD hS (lv_sub hl [0, 1, 2] rfl)
    · have hf := x_t c_19 hf
      refine lv_iload hx hb dX8_reverse_90 (lv_at hl 2 rfl) ?_
      refine lv_i2l (v := u5.toInt64) hx hb dX8_reverse_92 rfl ?_
      refine lv_goto (tgt := 97) hx hb dX8_reverse_93 (by decide) ?_
      exact hfX8_reverse_J97 st gr hi gh rc u1 u5 u5.toInt64 (gr (14 : Int32).toNatClampNeg) 14 _ _ _ hf hP hD hS (lv_sub hl [0, 1, 2] rfl)
  have hfX8_reverse_J54 : ∀ (st : Nat → Int32) (gr : Nat → Int64) (hi : Nat → Int32) (gh : Nat → Int64) (rc : Int32) (u1 : Int32) (u4 : Int32) (u5 : Int32) (H : Heap) (locs : List Loc) (ls : Array Slot), fX8_reverse_J54 st gr hi gh rc u1 u4 u5 = some (r, st', gr', hi', gh', rc') → va_P D vwCl (wX8 cy a0 a1 a2 a3 a4 a5 a6 st gr hi gh rc tx tl rk tb tk at_ ltr on_ tw th nu) H → va_D A (wX8 cy a0 a1 a2 a3 a4 a5 a6 st gr hi gh rc tx tl rk tb tk at_ ltr on_ tw th nu) → va_S A s.heap H locs → lv_has ls 6 [(0, .ref a0), (1, .int u1), (4, .int u4), (5, .int u5)] → W p l e rmX8_reverse s m ([.ref a0, .int p1] : List Value).toArray below meth c H locs 0 0 (MQ below (xQi D cy (wX8 cy a0 a1 a2 a3 a4 a5 a6 st' gr' hi' gh' rc' tx tl rk tb tk at_ ltr on_ tw th nu) r A) ([.ref a0, .int p1] : List Value).toArray s 0 0 A) (F0 m 54 ls []) := by
    intro st gr hi gh rc u1 u4 u5 H locs ls hf hP hD hS hl
    unfold fX8_reverse_J54 at hf
    refine lv_iload hx hb dX8_reverse_54 (lv_at hl 2 rfl) ?_
    refine lv_if_le (tgt := 72) hx hb dX8_reverse_56 (by decide) (fun c_15 => ?_) (fun c_15 => ?_)
    · have hf := x_t c_15 hf
      exact hfX8_reverse_J72 st gr hi gh rc u1 u5 _ _ _ hf hP hD hS (lv_sub hl [0, 1, 3] rfl)
    · have hf := x_f c_15 hf
      refine lv_aload_n hx hb dX8_reverse_59 rfl (lv_at hl 0 rfl) ?_
      refine lv_aload_n hx hb dX8_reverse_60 rfl (lv_at hl 0 rfl) ?_
      refine lv_iload hx hb dX8_reverse_61 (lv_at hl 2 rfl) ?_
      obtain ⟨r_37, h_38, hf⟩ := bd1_el hf
      refine x_callVi (As := [.int u4]) (rest := [.ref a0]) ⟨hx, hb, hml, hown, hts⟩ (mX8_find l D cy a0 a1 a2 a3 a4 a5 a6 st gr hi gh rc tx tl rk tb tk at_ ltr on_ tw th nu u4 r_37 h_38) (cwV 1 hts (gcV_X8_find hbg wm_9_5) rfl rfl rfl kdX8_find ⟨Nat.le_of_ble_eq_true rfl, Nat.le_of_ble_eq_true rfl⟩) (w1 := []) (w2 := []) (w' := wX8 cy a0 a1 a2 a3 a4 a5 a6 st gr hi gh rc tx tl rk tb tk at_ ltr on_ tw th nu) (List.append_nil _) (List.append_nil _) hP hK hD hN hS hA (q0 := 0) rfl rfl rfl rfl hl rfl (Nat.le_of_ble_eq_true rfl) dX8_reverse_63 ⟨Nat.zero_le _, Nat.zero_le _⟩ (fun H locs hP hD hS => ?_)
      refine lv_iload hx hb dX8_reverse_66 (lv_at hl 3 rfl) ?_
      obtain ⟨r_39, st_40, h_41, hf⟩ := bd2_el hf
      refine x_callVi (As := [.int r_37, .int u5]) (rest := []) ⟨hx, hb, hml, hown, hts⟩ (mX8_adds l D cy a0 a1 a2 a3 a4 a5 a6 st gr hi gh rc tx tl rk tb tk at_ ltr on_ tw th nu r_37 u5 r_39 st_40 h_41) (cwV 2 hts (gcV_X8_adds hbg wm_13_17) rfl rfl rfl kdX8_adds ⟨Nat.le_of_ble_eq_true rfl, Nat.le_of_ble_eq_true rfl⟩) (w1 := []) (w2 := []) (w' := wX8 cy a0 a1 a2 a3 a4 a5 a6 st_40 gr hi gh rc tx tl rk tb tk at_ ltr on_ tw th nu) (List.append_nil _) (List.append_nil _) hP hK hD hN hS hA (q0 := 0) rfl rfl rfl rfl hl rfl (Nat.le_of_ble_eq_true rfl) dX8_reverse_68 ⟨Nat.zero_le _, Nat.zero_le _⟩ (fun H locs hP hD hS => ?_)
      refine lv_pop hx hb dX8_reverse_71 rfl ?_
      exact hfX8_reverse_J72 st_40 gr hi gh rc u1 u5 _ _ _ hf hP hD hS (lv_sub hl [0, 1, 3] rfl)
  unfold fX8_reverse at hf
  refine lv_aload_n hx hb dX8_reverse_0 rfl (lv_at hl 0 rfl) ?_
  refine lv_iload_n hx hb dX8_reverse_1 rfl (lv_at hl 1 rfl) ?_
  obtain ⟨r_1, h_2, hf⟩ := bd1_el hf
  refine x_callVi (As := [.int p1]) (rest := []) ⟨hx, hb, hml, hown, hts⟩ (mX8_whyNotReversed l D cy a0 a1 a2 a3 a4 a5 a6 st gr hi gh rc tx tl rk tb tk at_ ltr on_ tw th nu p1 r_1 h_2) (cwV 1 hts (gcV_X8_whyNotReversed hbg wm_25_6) rfl rfl rfl kdX8_whyNotReversed ⟨Nat.le_of_ble_eq_true rfl, Nat.le_of_ble_eq_true rfl⟩) (w1 := []) (w2 := []) (w' := wX8 cy a0 a1 a2 a3 a4 a5 a6 st gr hi gh rc tx tl rk tb tk at_ ltr on_ tw th nu) (List.append_nil _) (List.append_nil _) hP hK hD hN hS hA (q0 := 0) rfl rfl rfl rfl hl rfl (Nat.le_of_ble_eq_true rfl) dX8_reverse_2 ⟨Nat.zero_le _, Nat.zero_le _⟩ (fun H locs hP hD hS => ?_)
  refine lv_istore_n (lv' := [(2, .int r_1), (0, .ref a0), (1, .int p1)]) hx hb dX8_reverse_5 rfl hl (by decide) rfl (fun ls hl => ?_)
  refine lv_iload_n hx hb dX8_reverse_6 rfl (lv_at hl 0 rfl) ?_
  refine lv_if_ge (tgt := 12) hx hb dX8_reverse_7 (by decide) (fun c_3 => ?_) (fun c_3 => ?_)
  · have hf := x_t c_3 hf
    refine lv_aload_n hx hb dX8_reverse_12 rfl (lv_at hl 1 rfl) ?_
    obtain ⟨hi_4, gh_5, rc_6, h_7, hf⟩ := bd3_el hf
    refine x_callVv (As := []) (rest := []) ⟨hx, hb, hml, hown, hts⟩ (mX8_record l D cy a0 a1 a2 a3 a4 a5 a6 st gr hi gh rc tx tl rk tb tk at_ ltr on_ tw th nu  hi_4 gh_5 rc_6 h_7) (cwV 0 hts (gcV_X8_record hbg wm_7_3) rfl rfl rfl kdX8_record ⟨Nat.le_of_ble_eq_true rfl, Nat.le_of_ble_eq_true rfl⟩) (w1 := []) (w2 := []) (w' := wX8 cy a0 a1 a2 a3 a4 a5 a6 st gr hi_4 gh_5 rc_6 tx tl rk tb tk at_ ltr on_ tw th nu) (List.append_nil _) (List.append_nil _) hP hK hD hN hS hA (q0 := 0) rfl rfl rfl rfl hl rfl (Nat.le_of_ble_eq_true rfl) dX8_reverse_13 ⟨Nat.zero_le _, Nat.zero_le _⟩ (fun H locs hP hD hS => ?_)
    refine lv_aload_n hx hb dX8_reverse_16 rfl (lv_at hl 1 rfl) ?_
    refine lv_iload_n hx hb dX8_reverse_17 rfl (lv_at hl 2 rfl) ?_
    obtain ⟨r_8, h_9, hf⟩ := bd1_el hf
    refine x_callVi (As := [.int p1]) (rest := []) ⟨hx, hb, hml, hown, hts⟩ (mX8_giver l D cy a0 a1 a2 a3 a4 a5 a6 st gr hi_4 gh_5 rc_6 tx tl rk tb tk at_ ltr on_ tw th nu p1 r_8 h_9) (cwV 1 hts (gcV_X8_giver hbg wm_25_14) rfl rfl rfl kdX8_giver ⟨Nat.le_of_ble_eq_true rfl, Nat.le_of_ble_eq_true rfl⟩) (w1 := []) (w2 := []) (w' := wX8 cy a0 a1 a2 a3 a4 a5 a6 st gr hi_4 gh_5 rc_6 tx tl rk tb tk at_ ltr on_ tw th nu) (List.append_nil _) (List.append_nil _) hP hK hD hN hS hA (q0 := 0) rfl rfl rfl rfl hl rfl (Nat.le_of_ble_eq_true rfl) dX8_reverse_18 ⟨Nat.zero_le _, Nat.zero_le _⟩ (fun H locs hP hD hS => ?_)
    refine lv_istore_n (lv' := [(3, .int r_8), (2, .int r_1), (0, .ref a0), (1, .int p1)]) hx hb dX8_reverse_21 rfl hl (by decide) rfl (fun ls hl => ?_)
    refine lv_aload_n hx hb dX8_reverse_22 rfl (lv_at hl 2 rfl) ?_
    refine lv_iload_n hx hb dX8_reverse_23 rfl (lv_at hl 3 rfl) ?_
    obtain ⟨r_10, h_11, hf⟩ := bd1_el hf
    refine x_callVi (As := [.int p1]) (rest := []) ⟨hx, hb, hml, hown, hts⟩ (mX8_taker l D cy a0 a1 a2 a3 a4 a5 a6 st gr hi_4 gh_5 rc_6 tx tl rk tb tk at_ ltr on_ tw th nu p1 r_10 h_11) (cwV 1 hts (gcV_X8_taker hbg wm_25_22) rfl rfl rfl kdX8_taker ⟨Nat.le_of_ble_eq_true rfl, Nat.le_of_ble_eq_true rfl⟩) (w1 := []) (w2 := []) (w' := wX8 cy a0 a1 a2 a3 a4 a5 a6 st gr hi_4 gh_5 rc_6 tx tl rk tb tk at_ ltr on_ tw th nu) (List.append_nil _) (List.append_nil _) hP hK hD hN hS hA (q0 := 0) rfl rfl rfl rfl hl rfl (Nat.le_of_ble_eq_true rfl) dX8_reverse_24 ⟨Nat.zero_le _, Nat.zero_le _⟩ (fun H locs hP hD hS => ?_)
    refine lv_istore (lv' := [(4, .int r_10), (3, .int r_8), (2, .int r_1), (0, .ref a0), (1, .int p1)]) hx hb dX8_reverse_27 hl (by decide) rfl (fun ls hl => ?_)
    refine lv_aload_n hx hb dX8_reverse_29 rfl (lv_at hl 3 rfl) ?_
    refine lv_iload_n hx hb dX8_reverse_30 rfl (lv_at hl 4 rfl) ?_
    refine lv_iconst (v := 4) hx hb dX8_reverse_31 (by decide) ?_
    obtain ⟨r_12, h_13, hf⟩ := bd1_el hf
    refine x_callVi (As := [.int p1, .int 4]) (rest := []) ⟨hx, hb, hml, hown, hts⟩ (mX8_entryPart l D cy a0 a1 a2 a3 a4 a5 a6 st gr hi_4 gh_5 rc_6 tx tl rk tb tk at_ ltr on_ tw th nu p1 4 r_12 h_13) (cwV 2 hts (gcV_X8_entryPart hbg wm_25_18) rfl rfl rfl kdX8_entryPart ⟨Nat.le_of_ble_eq_true rfl, Nat.le_of_ble_eq_true rfl⟩) (w1 := []) (w2 := []) (w' := wX8 cy a0 a1 a2 a3 a4 a5 a6 st gr hi_4 gh_5 rc_6 tx tl rk tb tk at_ ltr on_ tw th nu) (List.append_nil _) (List.append_nil _) hP hK hD hN hS hA (q0 := 0) rfl rfl rfl rfl hl rfl (Nat.le_of_ble_eq_true rfl) dX8_reverse_32 ⟨Nat.zero_le _, Nat.zero_le _⟩ (fun H locs hP hD hS => ?_)
    refine lv_istore (lv' := [(5, .int r_12), (4, .int r_10), (3, .int r_8), (2, .int r_1), (0, .ref a0), (1, .int p1)]) hx hb dX8_reverse_35 hl (by decide) rfl (fun ls hl => ?_)
    refine lv_iload_n hx hb dX8_reverse_37 rfl (lv_at hl 2 rfl) ?_
    refine lv_if_le (tgt := 54) hx hb dX8_reverse_38 (by decide) (fun c_14 => ?_) (fun c_14 => ?_)
    · have hf := x_t c_14 hf
      exact hfX8_reverse_J54 st gr hi_4 gh_5 rc_6 p1 r_10 r_12 _ _ _ hf hP hD hS (lv_sub hl [4, 5, 1, 0] rfl)
    · have hf := x_f c_14 hf
      refine lv_aload_n hx hb dX8_reverse_41 rfl (lv_at hl 4 rfl) ?_
      refine lv_aload_n hx hb dX8_reverse_42 rfl (lv_at hl 4 rfl) ?_
      refine lv_iload_n hx hb dX8_reverse_43 rfl (lv_at hl 2 rfl) ?_
      obtain ⟨r_42, h_43, hf⟩ := bd1_el hf
      refine x_callVi (As := [.int r_8]) (rest := [.ref a0]) ⟨hx, hb, hml, hown, hts⟩ (mX8_find l D cy a0 a1 a2 a3 a4 a5 a6 st gr hi_4 gh_5 rc_6 tx tl rk tb tk at_ ltr on_ tw th nu r_8 r_42 h_43) (cwV 1 hts (gcV_X8_find hbg wm_9_5) rfl rfl rfl kdX8_find ⟨Nat.le_of_ble_eq_true rfl, Nat.le_of_ble_eq_true rfl⟩) (w1 := []) (w2 := []) (w' := wX8 cy a0 a1 a2 a3 a4 a5 a6 st gr hi_4 gh_5 rc_6 tx tl rk tb tk at_ ltr on_ tw th nu) (List.append_nil _) (List.append_nil _) hP hK hD hN hS hA (q0 := 0) rfl rfl rfl rfl hl rfl (Nat.le_of_ble_eq_true rfl) dX8_reverse_44 ⟨Nat.zero_le _, Nat.zero_le _⟩ (fun H locs hP hD hS => ?_)
      refine lv_iload hx hb dX8_reverse_47 (lv_at hl 0 rfl) ?_
      refine lv_ineg hx hb dX8_reverse_49 ?_
      obtain ⟨r_44, st_45, h_46, hf⟩ := bd2_el hf
      refine x_callVi (As := [.int r_42, .int (-r_12)]) (rest := []) ⟨hx, hb, hml, hown, hts⟩ (mX8_adds l D cy a0 a1 a2 a3 a4 a5 a6 st gr hi_4 gh_5 rc_6 tx tl rk tb tk at_ ltr on_ tw th nu r_42 (-r_12) r_44 st_45 h_46) (cwV 2 hts (gcV_X8_adds hbg wm_13_17) rfl rfl rfl kdX8_adds ⟨Nat.le_of_ble_eq_true rfl, Nat.le_of_ble_eq_true rfl⟩) (w1 := []) (w2 := []) (w' := wX8 cy a0 a1 a2 a3 a4 a5 a6 st_45 gr hi_4 gh_5 rc_6 tx tl rk tb tk at_ ltr on_ tw th nu) (List.append_nil _) (List.append_nil _) hP hK hD hN hS hA (q0 := 0) rfl rfl rfl rfl hl rfl (Nat.le_of_ble_eq_true rfl) dX8_reverse_50 ⟨Nat.zero_le _, Nat.zero_le _⟩ (fun H locs hP hD hS => ?_)
      refine lv_pop hx hb dX8_reverse_53 rfl ?_
      exact hfX8_reverse_J54 st_45 gr hi_4 gh_5 rc_6 p1 r_10 r_12 _ _ _ hf hP hD hS (lv_sub hl [4, 5, 1, 0] rfl)
  · have hf := x_f c_3 hf
    refine lv_iload_n hx hb dX8_reverse_10 rfl (lv_at hl 0 rfl) ?_
    have hf := Option.some.inj hf
    cases hf
    exact x_iret hx hb hr hlocks hK hP hD hS dX8_reverse_11
