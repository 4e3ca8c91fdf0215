theorem kdX8_within : yX8_within.cls ≠ "java/lang/invoke/MethodHandle" ∧ yX8_within.cls ≠ "java/lang/invoke/VarHandle" ∧ (parseMethodDescriptor yX8_within.desc).map (fun d => d.parameters.length) = some 3 := by decide +kernel
def rmX8_within : Room := { frames := 0, cells := 0, slots := 0, locals := 0 }
set_option maxHeartbeats 4000000 in
set_option maxRecDepth 100000 in
theorem mX8_within (l : Launch) (D : va_G) (cy : Nat → ClassId)  (p1 : Int32) (p2 : Int32) (p3 : Int32) (r : Int32) (hf : fX8_within p1 p2 p3 = some r) : xMi l D cy yX8_within aX8_within rmX8_within ([.int p1, .int p2, .int p3] : List Value) ([]) ([]) r := by
  intro hz
  refine x_start (Qc := xQi D cy _ r) (cc := cX8_within) (maxL := 3) (ret := (some .boolean)) (by decide) rfl (Nat.le_of_ble_eq_true rfl) (lv := [(0, .int p1), (1, .int p2), (2, .int p3)]) rfl ?_
  intro p e s m below meth c ls A hx hb hr hml hown hts hlocks hK hP hD hS hA hN hl
  have hown : s.vm.findClass RX8 = some m.cls := hown
  have hbg : ∀ w ∈ wsL_law, w ∈ aX8_within := fun w h => List.mem_cons_of_mem _ h
  unfold fX8_within at hf
  refine lv_iload_n hx hb dX8_within_0 rfl (lv_at hl 0 rfl) ?_
  refine lv_iload_n hx hb dX8_within_1 rfl (lv_at hl 1 rfl) ?_
  refine lv_icmp_lt (tgt := 14) hx hb dX8_within_2 (by decide) (fun c_1 => ?_) (fun c_1 => ?_)
  · have hf := x_t c_1 hf
    refine lv_iconst (v := 0) hx hb dX8_within_14 (by decide) ?_
    have hf := Option.some.inj hf
    cases hf
    exact x_zret hx hb hr hlocks hK hP hD hS rfl dX8_within_15
  · have hf := x_f c_1 hf
    refine lv_iload_n hx hb dX8_within_5 rfl (lv_at hl 0 rfl) ?_
    refine lv_iload_n hx hb dX8_within_6 rfl (lv_at hl 2 rfl) ?_
    refine lv_icmp_gt (tgt := 14) hx hb dX8_within_7 (by decide) (fun c_2 => ?_) (fun c_2 => ?_)
    · have hf := x_t c_2 hf
      refine lv_iconst (v := 0) hx hb dX8_within_14 (by decide) ?_
      have hf := Option.some.inj hf
      cases hf
      exact x_zret hx hb hr hlocks hK hP hD hS rfl dX8_within_15
    · have hf := x_f c_2 hf
      refine lv_iconst (v := 1) hx hb dX8_within_10 (by decide) ?_
      refine lv_goto (tgt := 15) hx hb dX8_within_11 (by decide) ?_
      have hf := Option.some.inj hf
      cases hf
      exact x_zret hx hb hr hlocks hK hP hD hS rfl dX8_within_15
theorem kdX8_record : yX8_record.cls = RX8 ∧ yX8_record.cls ≠ "java/lang/invoke/MethodHandle" ∧ yX8_record.cls ≠ "java/lang/invoke/VarHandle" ∧ (parseMethodDescriptor yX8_record.desc).map (fun d => d.parameters.length) = some 0 := by decide +kernel
def rmX8_record : Room := { frames := 0, cells := 0, slots := 0, locals := 0 }
set_option maxHeartbeats 4000000 in
set_option maxRecDepth 100000 in
theorem mX8_record (l : Launch) (D : va_G) (cy : Nat → ClassId) (a0 a1 a2 a3 a4 a5 a6 : Nat) (st : Nat → Int32) (gr : Nat → Int64) (hi : Nat → Int32) (gh : Nat → Int64) (rc : Int32) (tx : Nat → Int32) (tl : Int32) (rk : Nat → Int32) (tb : Int32) (tk : Int64) (at_ : Int32) (ltr : Int32) (on_ : Int32) (tw : Int32) (th : Int32) (nu : Int32)  (hi' : Nat → Int32) (gh' : Nat → Int64) (rc' : Int32) (hf : fX8_record st gr hi gh rc = some (hi', gh', rc')) : xMv l D cy yX8_record aX8_record rmX8_record ([.ref a0] : List Value) (wX8 cy a0 a1 a2 a3 a4 a5 a6 st gr hi gh rc tx tl rk tb tk at_ ltr on_ tw th nu) (wX8 cy a0 a1 a2 a3 a4 a5 a6 st gr hi' gh' rc' tx tl rk tb tk at_ ltr on_ tw th nu) := by
  intro hz
  refine x_start (Qc := xQv D cy _) (cc := cX8_record) (maxL := 2) (ret := none) (by decide) rfl (Nat.le_of_ble_eq_true rfl) (lv := [(0, .ref a0)]) rfl ?_
  intro p e s m below meth c ls A hx hb hr hml hown hts hlocks hK hP hD hS hA hN hl
  have hown : s.vm.findClass RX8 = some m.cls := hown
  have hbg : ∀ w ∈ wsL_law, w ∈ aX8_record := fun w h => List.mem_cons_of_mem _ h
  have wd0 : (Cond.fieldLink RX8 30 "ClientMoneyBookModel" "recorded" "I").before ([.ref a0] : List Value).toArray s = true := hts _ (List.mem_cons_of_mem _ wm_7_7)
  have wd1 : (Cond.fieldLink RX8 17 "ClientMoneyBookModel" "history" "[I").before ([.ref a0] : List Value).toArray s = true := hts _ (List.mem_cons_of_mem _ wm_4_11)
  have wd2 : (Cond.fieldLink RX8 7 "ClientMoneyBookModel" "state" "[I").before ([.ref a0] : List Value).toArray s = true := hts _ (List.mem_cons_of_mem _ wm_4_9)
  have wd3 : (Cond.fieldLink RX8 20 "ClientMoneyBookModel" "greatHistory" "[J").before ([.ref a0] : List Value).toArray s = true := hts _ (List.mem_cons_of_mem _ wm_4_12)
  have wd4 : (Cond.fieldLink RX8 13 "ClientMoneyBookModel" "great" "[J").before ([.ref a0] : List Value).toArray s = true := hts _ (List.mem_cons_of_mem _ wm_4_10)
  have iX8 : ∀ w ∈ u_ws RX8 TX8 16, w ∈ aX8_record := fun w h => List.mem_cons_of_mem _ (inlX8 w h)
  unfold fX8_record at hf
  refine lv_aload_n hx hb dX8_record_0 rfl (lv_at hl 0 rfl) ?_
  refine x_get hx hb (C := RX8) (T := TX8) (N := 16) (ci := 8) hts iX8 hown hK hP 0 rfl rfl 4 (by decide) wd0 rfl (.int rc) rfl dX8_record_1 ?_
  refine lv_bipush (v := 6) hx hb dX8_record_4 (by decide) ?_
  refine lv_icmp_ne (tgt := 79) hx hb dX8_record_6 (by decide) (fun c_1 => ?_) (fun c_1 => ?_)
  · have hf := x_f c_1 hf
    refine lv_iconst (v := 0) hx hb dX8_record_79 (by decide) ?_
    refine lv_istore_n (lv' := [(1, .int 0), (0, .ref a0)]) hx hb dX8_record_80 rfl hl (by decide) rfl (fun ls hl => ?_)
    have hL_81 : ∀ (n : Nat) (hi_20 : Nat → Int32) (z1_21 : Int32) (o : (Nat → Int32)) (H : Heap) (locs : List Loc) (ls : Array Slot), fX8_record_L81 st rc n hi_20 z1_21 = some o → va_P D vwCl (wX8 cy a0 a1 a2 a3 a4 a5 a6 st gr hi_20 gh rc tx tl rk tb tk at_ ltr on_ tw th nu) H → va_D A (wX8 cy a0 a1 a2 a3 a4 a5 a6 st gr hi_20 gh rc tx tl rk tb tk at_ ltr on_ tw th nu) → va_S A s.heap H locs → lv_has ls 2 [(0, .ref a0), (1, .int z1_21)] → True → ((∀ (hi_22 : Nat → Int32) , o = hi_22 → ∀ (H : Heap) (locs : List Loc) (ls : Array Slot), va_P D vwCl (wX8 cy a0 a1 a2 a3 a4 a5 a6 st gr hi_22 gh rc tx tl rk tb tk at_ ltr on_ tw th nu) H → va_D A (wX8 cy a0 a1 a2 a3 a4 a5 a6 st gr hi_22 gh rc tx tl rk tb tk at_ ltr on_ tw th nu) → va_S A s.heap H locs → lv_has ls 2 [(0, .ref a0)] → W p l e rmX8_record s m ([.ref a0] : List Value).toArray below meth c H locs 0 0 (MQ below (xQv D cy (wX8 cy a0 a1 a2 a3 a4 a5 a6 st gr hi' gh' rc' tx tl rk tb tk at_ ltr on_ tw th nu) A) ([.ref a0] : List Value).toArray s 0 0 A) (F0 m 115 ls []))) → W p l e rmX8_record s m ([.ref a0] : List Value).toArray below meth c H locs 0 0 (MQ below (xQv D cy (wX8 cy a0 a1 a2 a3 a4 a5 a6 st gr hi' gh' rc' tx tl rk tb tk at_ ltr on_ tw th nu) A) ([.ref a0] : List Value).toArray s 0 0 A) (F0 m 81 ls []) := by
      intro n
      induction n with
      | zero =>
        intro hi_20 z1_21 o_81 H locs ls hf
        rw [fX8_record_L81] at hf
        cases hf
      | succ n ih =>
        intro hi_20 z1_21 o_81 H locs ls hf hP hD hS hl hr_81 kx_81
        rw [fX8_record_L81] at hf
        refine lv_iload_n hx hb dX8_record_81 rfl (lv_at hl 1 rfl) ?_
        refine lv_sipush (v := 336) hx hb dX8_record_82 (by decide) ?_
        refine lv_icmp_ge (tgt := 115) hx hb dX8_record_85 (by decide) (fun c_23 => ?_) (fun c_23 => ?_)
        · have hf := x_t c_23 hf
          exact kx_81 hi_20 (Option.some.inj hf).symm _ _ _ hP hD hS (lv_sub hl [0] rfl)
        · have hf := x_f c_23 hf
          refine lv_aload_n hx hb dX8_record_88 rfl (lv_at hl 0 rfl) ?_
          refine x_get hx hb (C := RX8) (T := TX8) (N := 16) (ci := 8) hts iX8 hown hK hP 0 rfl rfl 2 (by decide) wd1 rfl (.ref a3) rfl dX8_record_89 ?_
          refine lv_aload_n hx hb dX8_record_92 rfl (lv_at hl 0 rfl) ?_
          refine x_get hx hb (C := RX8) (T := TX8) (N := 16) (ci := 8) hts iX8 hown hK hP 0 rfl rfl 4 (by decide) wd0 rfl (.int rc) rfl dX8_record_93 ?_
          refine lv_sipush (v := 336) hx hb dX8_record_96 (by decide) ?_
          refine lv_imul hx hb dX8_record_99 ?_
          refine lv_iload_n hx hb dX8_record_100 rfl (lv_at hl 1 rfl) ?_
          refine lv_iadd hx hb dX8_record_101 ?_
          refine lv_aload_n hx hb dX8_record_102 rfl (lv_at hl 0 rfl) ?_
          refine x_get hx hb (C := RX8) (T := TX8) (N := 16) (ci := 8) hts iX8 hown hK hP 0 rfl rfl 0 (by decide) wd2 rfl (.ref a1) rfl dX8_record_103 ?_
          refine lv_iload_n hx hb dX8_record_106 rfl (lv_at hl 1 rfl) ?_
          obtain ⟨hi_24, hf⟩ := ckI_el hf
          refine va_iald hx hb hK hP 1 1 rfl rfl hi_24 dX8_record_107 ?_
          obtain ⟨hi_25, hf⟩ := ckI_el hf
          obtain ⟨hi_26, ehi_26, hf⟩ := lt_el hf
          refine x_iast hx hb hK hP hD hS 3 rfl hi_25 ehi_26 (w' := wX8 cy a0 a1 a2 a3 a4 a5 a6 st gr hi_26 gh rc tx tl rk tb tk at_ ltr on_ tw th nu) rfl dX8_record_108 (fun H locs hP hD hS => ?_)
          refine lv_iinc (v := (z1_21 + 1)) (lv' := [(1, .int (z1_21 + 1)), (0, .ref a0)]) hx hb dX8_record_109 hl (k := 1) rfl rfl (by decide) rfl (fun ls hl => ?_)
          refine lv_goto (tgt := 81) hx hb dX8_record_112 (by decide) ?_
          exact ih hi_26 (z1_21 + 1) _ _ _ _ hf hP hD hS (lv_sub hl [1, 0] rfl) hr_81 kx_81
    obtain ⟨hi_6, h1_81, hf⟩ := bd1_el hf
    refine hL_81 2147483648 hi 0 _ _ _ _ h1_81 hP hD hS (lv_sub hl [1, 0] rfl) trivial (fun hi_69 ho H locs ls hP hD hS hl => ?_)
    cases ho
    refine lv_iconst (v := 0) hx hb dX8_record_115 (by decide) ?_
    refine lv_istore_n (lv' := [(1, .int 0), (0, .ref a0)]) hx hb dX8_record_116 rfl hl (by decide) rfl (fun ls hl => ?_)
    have hL_117 : ∀ (n : Nat) (gh_13 : Nat → Int64) (z1_14 : Int32) (o : (Nat → Int64)) (H : Heap) (locs : List Loc) (ls : Array Slot), fX8_record_L117 gr rc n gh_13 z1_14 = some o → va_P D vwCl (wX8 cy a0 a1 a2 a3 a4 a5 a6 st gr hi_6 gh_13 rc tx tl rk tb tk at_ ltr on_ tw th nu) H → va_D A (wX8 cy a0 a1 a2 a3 a4 a5 a6 st gr hi_6 gh_13 rc tx tl rk tb tk at_ ltr on_ tw th nu) → va_S A s.heap H locs → lv_has ls 2 [(0, .ref a0), (1, .int z1_14)] → True → ((∀ (gh_15 : Nat → Int64) , o = gh_15 → ∀ (H : Heap) (locs : List Loc) (ls : Array Slot), va_P D vwCl (wX8 cy a0 a1 a2 a3 a4 a5 a6 st gr hi_6 gh_15 rc tx tl rk tb tk at_ ltr on_ tw th nu) H → va_D A (wX8 cy a0 a1 a2 a3 a4 a5 a6 st gr hi_6 gh_15 rc tx tl rk tb tk at_ ltr on_ tw th nu) → va_S A s.heap H locs → lv_has ls 2 [(0, .ref a0)] → W p l e rmX8_record s m ([.ref a0] : List Value).toArray below meth c H locs 0 0 (MQ below (xQv D cy (wX8 cy a0 a1 a2 a3 a4 a5 a6 st gr hi' gh' rc' tx tl rk tb tk at_ ltr on_ tw th nu) A) ([.ref a0] : List Value).toArray s 0 0 A) (F0 m 149 ls []))) → W p l e rmX8_record s m ([.ref a0] : List Value).toArray below meth c H locs 0 0 (MQ below (xQv D cy (wX8 cy a0 a1 a2 a3 a4 a5 a6 st gr hi' gh' rc' tx tl rk tb tk at_ ltr on_ tw th nu) A) ([.ref a0] : List Value).toArray s 0 0 A) (F0 m 117 ls []) := by
      intro n
      induction n with
      | zero =>
        intro gh_13 z1_14 o_117 H locs ls hf
        rw [fX8_record_L117] at hf
        cases hf
      | succ n ih =>
        intro gh_13 z1_14 o_117 H locs ls hf hP hD hS hl hr_117 kx_117
        rw [fX8_record_L117] at hf
        refine lv_iload_n hx hb dX8_record_117 rfl (lv_at hl 1 rfl) ?_
        refine lv_bipush (v := 16) hx hb dX8_record_118 (by decide) ?_
        refine lv_icmp_ge (tgt := 149) hx hb dX8_record_120 (by decide) (fun c_16 => ?_) (fun c_16 => ?_)
        · have hf := x_t c_16 hf
          exact kx_117 gh_13 (Option.some.inj hf).symm _ _ _ hP hD hS (lv_sub hl [0] rfl)
        · have hf := x_f c_16 hf
          refine lv_aload_n hx hb dX8_record_123 rfl (lv_at hl 0 rfl) ?_
          refine x_get hx hb (C := RX8) (T := TX8) (N := 16) (ci := 8) hts iX8 hown hK hP 0 rfl rfl 3 (by decide) wd3 rfl (.ref a4) rfl dX8_record_124 ?_
          refine lv_aload_n hx hb dX8_record_127 rfl (lv_at hl 0 rfl) ?_
          refine x_get hx hb (C := RX8) (T := TX8) (N := 16) (ci := 8) hts iX8 hown hK hP 0 rfl rfl 4 (by decide) wd0 rfl (.int rc) rfl dX8_record_128 ?_
          refine lv_bipush (v := 16) hx hb dX8_record_131 (by decide) ?_
          refine lv_imul hx hb dX8_record_133 ?_
          refine lv_iload_n hx hb dX8_record_134 rfl (lv_at hl 1 rfl) ?_
          refine lv_iadd hx hb dX8_record_135 ?_
          refine lv_aload_n hx hb dX8_record_136 rfl (lv_at hl 0 rfl) ?_
          refine x_get hx hb (C := RX8) (T := TX8) (N := 16) (ci := 8) hts iX8 hown hK hP 0 rfl rfl 1 (by decide) wd4 rfl (.ref a2) rfl dX8_record_137 ?_
          refine lv_iload_n hx hb dX8_record_140 rfl (lv_at hl 1 rfl) ?_
          obtain ⟨hi_17, hf⟩ := ckI_el hf
          refine va_lald hx hb hK hP 2 2 rfl rfl hi_17 dX8_record_141 ?_
          obtain ⟨hi_18, hf⟩ := ckI_el hf
          obtain ⟨gh_19, egh_19, hf⟩ := lt_el hf
          refine x_last hx hb hK hP hD hS 4 rfl hi_18 egh_19 (w' := wX8 cy a0 a1 a2 a3 a4 a5 a6 st gr hi_6 gh_19 rc tx tl rk tb tk at_ ltr on_ tw th nu) rfl dX8_record_142 (fun H locs hP hD hS => ?_)
          refine lv_iinc (v := (z1_14 + 1)) (lv' := [(1, .int (z1_14 + 1)), (0, .ref a0)]) hx hb dX8_record_143 hl (k := 1) rfl rfl (by decide) rfl (fun ls hl => ?_)
          refine lv_goto (tgt := 117) hx hb dX8_record_146 (by decide) ?_
          exact ih gh_19 (z1_14 + 1) _ _ _ _ hf hP hD hS (lv_sub hl [1, 0] rfl) hr_117 kx_117
    obtain ⟨gh_11, h1_117, hf⟩ := bd1_el hf
    refine hL_117 2147483648 gh 0 _ _ _ _ h1_117 hP hD hS (lv_sub hl [1, 0] rfl) trivial (fun gh_119 ho H locs ls hP hD hS hl => ?_)
    cases ho
    refine lv_aload_n hx hb dX8_record_149 rfl (lv_at hl 0 rfl) ?_
    refine lv_dup hx hb dX8_record_150 rfl ?_
    refine x_get hx hb (C := RX8) (T := TX8) (N := 16) (ci := 8) hts iX8 hown hK hP 0 rfl rfl 4 (by decide) wd0 rfl (.int rc) rfl dX8_record_151 ?_
    refine lv_iconst (v := 1) hx hb dX8_record_154 (by decide) ?_
    refine lv_iadd hx hb dX8_record_155 ?_
    obtain ⟨rc_12, erc_12, hf⟩ := lt_el hf
    refine x_topi erc_12 ?_
    refine x_put hx hb (C := RX8) (T := TX8) (N := 16) (ci := 8) hts iX8 tyX8 tyX8_ok nmX8 hown hK hP hD hS 0 rfl rfl 4 (by decide) wd0 rfl rfl (ty := .int) rfl rfl rfl (Nat.le_of_ble_eq_true rfl) (w' := wX8 cy a0 a1 a2 a3 a4 a5 a6 st gr hi_6 gh_11 rc_12 tx tl rk tb tk at_ ltr on_ tw th nu) rfl dX8_record_156 (fun H locs hP hD hS => ?_)
    have hf := Option.some.inj hf
    cases hf
    exact x_vret hx hb hr hlocks hK hP hD hS dX8_record_159
  · have hf := x_t c_1 hf
    refine lv_iconst (v := 0) hx hb dX8_record_9 (by decide) ?_
    refine lv_istore_n (lv' := [(1, .int 0), (0, .ref a0)]) hx hb dX8_record_10 rfl hl (by decide) rfl (fun ls hl => ?_)
    have hL_11 : ∀ (n : Nat) (hi_62 : Nat → Int32) (z1_63 : Int32) (o : (Nat → Int32)) (H : Heap) (locs : List Loc) (ls : Array Slot), fX8_record_L11  n hi_62 z1_63 = some o → va_P D vwCl (wX8 cy a0 a1 a2 a3 a4 a5 a6 st gr hi_62 gh rc tx tl rk tb tk at_ ltr on_ tw th nu) H → va_D A (wX8 cy a0 a1 a2 a3 a4 a5 a6 st gr hi_62 gh rc tx tl rk tb tk at_ ltr on_ tw th nu) → va_S A s.heap H locs → lv_has ls 2 [(0, .ref a0), (1, .int z1_63)] → True → ((∀ (hi_64 : Nat → Int32) , o = hi_64 → ∀ (H : Heap) (locs : List Loc) (ls : Array Slot), va_P D vwCl (wX8 cy a0 a1 a2 a3 a4 a5 a6 st gr hi_64 gh rc tx tl rk tb tk at_ ltr on_ tw th nu) H → va_D A (wX8 cy a0 a1 a2 a3 a4 a5 a6 st gr hi_64 gh rc tx tl rk tb tk at_ ltr on_ tw th nu) → va_S A s.heap H locs → lv_has ls 2 [(0, .ref a0)] → W p l e rmX8_record s m ([.ref a0] : List Value).toArray below meth c H locs 0 0 (MQ below (xQv D cy (wX8 cy a0 a1 a2 a3 a4 a5 a6 st gr hi' gh' rc' tx tl rk tb tk at_ ltr on_ tw th nu) A) ([.ref a0] : List Value).toArray s 0 0 A) (F0 m 40 ls []))) → W p l e rmX8_record s m ([.ref a0] : List Value).toArray below meth c H locs 0 0 (MQ below (xQv D cy (wX8 cy a0 a1 a2 a3 a4 a5 a6 st gr hi' gh' rc' tx tl rk tb tk at_ ltr on_ tw th nu) A) ([.ref a0] : List Value).toArray s 0 0 A) (F0 m 11 ls []) := by
      intro n
      induction n with
      | zero =>
        intro hi_62 z1_63 o_11 H locs ls hf
        rw [fX8_record_L11] at hf
        cases hf
      | succ n ih =>
        intro hi_62 z1_63 o_11 H locs ls hf hP hD hS hl hr_11 kx_11
        rw [fX8_record_L11] at hf
        refine lv_iload_n hx hb dX8_record_11 rfl (lv_at hl 1 rfl) ?_
        refine lv_sipush (v := 1680) hx hb dX8_record_12 (by decide) ?_
        refine lv_icmp_ge (tgt := 40) hx hb dX8_record_15 (by decide) (fun c_65 => ?_) (fun c_65 => ?_)
        · have hf := x_t c_65 hf
          exact kx_11 hi_62 (Option.some.inj hf).symm _ _ _ hP hD hS (lv_sub hl [0] rfl)
        · have hf := x_f c_65 hf
          refine lv_aload_n hx hb dX8_record_18 rfl (lv_at hl 0 rfl) ?_
          refine x_get hx hb (C := RX8) (T := TX8) (N := 16) (ci := 8) hts iX8 hown hK hP 0 rfl rfl 2 (by decide) wd1 rfl (.ref a3) rfl dX8_record_19 ?_
          refine lv_iload_n hx hb dX8_record_22 rfl (lv_at hl 1 rfl) ?_
          refine lv_aload_n hx hb dX8_record_23 rfl (lv_at hl 0 rfl) ?_
          refine x_get hx hb (C := RX8) (T := TX8) (N := 16) (ci := 8) hts iX8 hown hK hP 0 rfl rfl 2 (by decide) wd1 rfl (.ref a3) rfl dX8_record_24 ?_
          refine lv_iload_n hx hb dX8_record_27 rfl (lv_at hl 1 rfl) ?_
          refine lv_sipush (v := 336) hx hb dX8_record_28 (by decide) ?_
          refine lv_iadd hx hb dX8_record_31 ?_
          obtain ⟨hi_66, hf⟩ := ckI_el hf
          refine va_iald hx hb hK hP 3 1 rfl rfl hi_66 dX8_record_32 ?_
          obtain ⟨hi_67, hf⟩ := ckI_el hf
          obtain ⟨hi_68, ehi_68, hf⟩ := lt_el hf
          refine x_iast hx hb hK hP hD hS 3 rfl hi_67 ehi_68 (w' := wX8 cy a0 a1 a2 a3 a4 a5 a6 st gr hi_68 gh rc tx tl rk tb tk at_ ltr on_ tw th nu) rfl dX8_record_33 (fun H locs hP hD hS => ?_)
          refine lv_iinc (v := (z1_63 + 1)) (lv' := [(1, .int (z1_63 + 1)), (0, .ref a0)]) hx hb dX8_record_34 hl (k := 1) rfl rfl (by decide) rfl (fun ls hl => ?_)
          refine lv_goto (tgt := 11) hx hb dX8_record_37 (by decide) ?_
          exact ih hi_68 (z1_63 + 1) _ _ _ _ hf hP hD hS (lv_sub hl [1, 0] rfl) hr_11 kx_11
    obtain ⟨hi_31, h1_11, hf⟩ := bd1_el hf
    refine hL_11 2147483648 hi 0 _ _ _ _ h1_11 hP hD hS (lv_sub hl [1, 0] rfl) trivial (fun hi_319 ho H locs ls hP hD hS hl => ?_)
    cases ho
    refine lv_iconst (v := 0) hx hb dX8_record_40 (by decide) ?_
    refine lv_istore_n (lv' := [(1, .int 0), (0, .ref a0)]) hx hb dX8_record_41 rfl hl (by decide) rfl (fun ls hl => ?_)
    have hL_42 : ∀ (n : Nat) (gh_55 : Nat → Int64) (z1_56 : Int32) (o : (Nat → Int64)) (H : Heap) (locs : List Loc) (ls : Array Slot), fX8_record_L42  n gh_55 z1_56 = some o → va_P D vwCl (wX8 cy a0 a1 a2 a3 a4 a5 a6 st gr hi_31 gh_55 rc tx tl rk tb tk at_ ltr on_ tw th nu) H → va_D A (wX8 cy a0 a1 a2 a3 a4 a5 a6 st gr hi_31 gh_55 rc tx tl rk tb tk at_ ltr on_ tw th nu) → va_S A s.heap H locs → lv_has ls 2 [(0, .ref a0), (1, .int z1_56)] → True → ((∀ (gh_57 : Nat → Int64) , o = gh_57 → ∀ (H : Heap) (locs : List Loc) (ls : Array Slot), va_P D vwCl (wX8 cy a0 a1 a2 a3 a4 a5 a6 st gr hi_31 gh_57 rc tx tl rk tb tk at_ ltr on_ tw th nu) H → va_D A (wX8 cy a0 a1 a2 a3 a4 a5 a6 st gr hi_31 gh_57 rc tx tl rk tb tk at_ ltr on_ tw th nu) → va_S A s.heap H locs → lv_has ls 2 [(0, .ref a0)] → W p l e rmX8_record s m ([.ref a0] : List Value).toArray below meth c H locs 0 0 (MQ below (xQv D cy (wX8 cy a0 a1 a2 a3 a4 a5 a6 st gr hi' gh' rc' tx tl rk tb tk at_ ltr on_ tw th nu) A) ([.ref a0] : List Value).toArray s 0 0 A) (F0 m 69 ls []))) → W p l e rmX8_record s m ([.ref a0] : List Value).toArray below meth c H locs 0 0 (MQ below (xQv D cy (wX8 cy a0 a1 a2 a3 a4 a5 a6 st gr hi' gh' rc' tx tl rk tb tk at_ ltr on_ tw th nu) A) ([.ref a0] : List Value).toArray s 0 0 A) (F0 m 42 ls []) := by
      intro n
      induction n with
      | zero =>
        intro gh_55 z1_56 o_42 H locs ls hf
        rw [fX8_record_L42] at hf
        cases hf
      | succ n ih =>
        intro gh_55 z1_56 o_42 H locs ls hf hP hD hS hl hr_42 kx_42
        rw [fX8_record_L42] at hf
        refine lv_iload_n hx hb dX8_record_42 rfl (lv_at hl 1 rfl) ?_
        refine lv_bipush (v := 80) hx hb dX8_record_43 (by decide) ?_
        refine lv_icmp_ge (tgt := 69) hx hb dX8_record_45 (by decide) (fun c_58 => ?_) (fun c_58 => ?_)
        · have hf := x_t c_58 hf
          exact kx_42 gh_55 (Option.some.inj hf).symm _ _ _ hP hD hS (lv_sub hl [0] rfl)
        · have hf := x_f c_58 hf
          refine lv_aload_n hx hb dX8_record_48 rfl (lv_at hl 0 rfl) ?_
          refine x_get hx hb (C := RX8) (T := TX8) (N := 16) (ci := 8) hts iX8 hown hK hP 0 rfl rfl 3 (by decide) wd3 rfl (.ref a4) rfl dX8_record_49 ?_
          refine lv_iload_n hx hb dX8_record_52 rfl (lv_at hl 1 rfl) ?_
          refine lv_aload_n hx hb dX8_record_53 rfl (lv_at hl 0 rfl) ?_
          refine x_get hx hb (C := RX8) (T := TX8) (N := 16) (ci := 8) hts iX8 hown hK hP 0 rfl rfl 3 (by decide) wd3 rfl (.ref a4) rfl dX8_record_54 ?_
          refine lv_iload_n hx hb dX8_record_57 rfl (lv_at hl 1 rfl) ?_
          refine lv_bipush (v := 16) hx hb dX8_record_58 (by decide) ?_
          refine lv_iadd hx hb dX8_record_60 ?_
          obtain ⟨hi_59, hf⟩ := ckI_el hf
          refine va_lald hx hb hK hP 4 2 rfl rfl hi_59 dX8_record_61 ?_
          obtain ⟨hi_60, hf⟩ := ckI_el hf
          obtain ⟨gh_61, egh_61, hf⟩ := lt_el hf
          refine x_last hx hb hK hP hD hS 4 rfl hi_60 egh_61 (w' := wX8 cy a0 a1 a2 a3 a4 a5 a6 st gr hi_31 gh_61 rc tx tl rk tb tk at_ ltr on_ tw th nu) rfl dX8_record_62 (fun H locs hP hD hS => ?_)
          refine lv_iinc (v := (z1_56 + 1)) (lv' := [(1, .int (z1_56 + 1)), (0, .ref a0)]) hx hb dX8_record_63 hl (k := 1) rfl rfl (by decide) rfl (fun ls hl => ?_)
          refine lv_goto (tgt := 42) hx hb dX8_record_66 (by decide) ?_
          exact ih gh_61 (z1_56 + 1) _ _ _ _ hf hP hD hS (lv_sub hl [1, 0] rfl) hr_42 kx_42
    obtain ⟨gh_36, h1_42, hf⟩ := bd1_el hf
    refine hL_42 2147483648 gh 0 _ _ _ _ h1_42 hP hD hS (lv_sub hl [1, 0] rfl) trivial (fun gh_369 ho H locs ls hP hD hS hl => ?_)
    cases ho
    refine lv_aload_n hx hb dX8_record_69 rfl (lv_at hl 0 rfl) ?_
    refine lv_dup hx hb dX8_record_70 rfl ?_
    refine x_get hx hb (C := RX8) (T := TX8) (N := 16) (ci := 8) hts iX8 hown hK hP 0 rfl rfl 4 (by decide) wd0 rfl (.int rc) rfl dX8_record_71 ?_
    refine lv_iconst (v := 1) hx hb dX8_record_74 (by decide) ?_
    refine lv_isub hx hb dX8_record_75 ?_
    obtain ⟨rc_37, erc_37, hf⟩ := lt_el hf
    refine x_topi erc_37 ?_
    refine x_put hx hb (C := RX8) (T := TX8) (N := 16) (ci := 8) hts iX8 tyX8 tyX8_ok nmX8 hown hK hP hD hS 0 rfl rfl 4 (by decide) wd0 rfl rfl (ty := .int) rfl rfl rfl (Nat.le_of_ble_eq_true rfl) (w' := wX8 cy a0 a1 a2 a3 a4 a5 a6 st gr hi_31 gh_36 rc_37 tx tl rk tb tk at_ ltr on_ tw th nu) rfl dX8_record_76 (fun H locs hP hD hS => ?_)
    refine lv_iconst (v := 0) hx hb dX8_record_79 (by decide) ?_
    refine lv_istore_n (lv' := [(1, .int 0), (0, .ref a0)]) hx hb dX8_record_80 rfl hl (by decide) rfl (fun ls hl => ?_)
    have hL_81 : ∀ (n : Nat) (hi_48 : Nat → Int32) (z1_49 : Int32) (o : (Nat → Int32)) (H : Heap) (locs : List Loc) (ls : Array Slot), fX8_record_L81 st rc_37 n hi_48 z1_49 = some o → va_P D vwCl (wX8 cy a0 a1 a2 a3 a4 a5 a6 st gr hi_48 gh_36 rc_37 tx tl rk tb tk at_ ltr on_ tw th nu) H → va_D A (wX8 cy a0 a1 a2 a3 a4 a5 a6 st gr hi_48 gh_36 rc_37 tx tl rk tb tk at_ ltr on_ tw th nu) → va_S A s.heap H locs → lv_has ls 2 [(0, .ref a0), (1, .int z1_49)] → True → ((∀ (hi_50 : Nat → Int32) , o = hi_50 → ∀ (H : Heap) (locs : List Loc) (ls : Array Slot), va_P D vwCl (wX8 cy a0 a1 a2 a3 a4 a5 a6 st gr hi_50 gh_36 rc_37 tx tl rk tb tk at_ ltr on_ tw th nu) H → va_D A (wX8 cy a0 a1 a2 a3 a4 a5 a6 st gr hi_50 gh_36 rc_37 tx tl rk tb tk at_ ltr on_ tw th nu) → va_S A s.heap H locs → lv_has ls 2 [(0, .ref a0)] → W p l e rmX8_record s m ([.ref a0] : List Value).toArray below meth c H locs 0 0 (MQ below (xQv D cy (wX8 cy a0 a1 a2 a3 a4 a5 a6 st gr hi' gh' rc' tx tl rk tb tk at_ ltr on_ tw th nu) A) ([.ref a0] : List Value).toArray s 0 0 A) (F0 m 115 ls []))) → W p l e rmX8_record s m ([.ref a0] : List Value).toArray below meth c H locs 0 0 (MQ below (xQv D cy (wX8 cy a0 a1 a2 a3 a4 a5 a6 st gr hi' gh' rc' tx tl rk tb tk at_ ltr on_ tw th nu) A) ([.ref a0] : List Value).toArray s 0 0 A) (F0 m 81 ls []) := by
      intro n
      induction n with
      | zero =>
        intro hi_48 z1_49 o_81 H locs ls hf
        rw [fX8_record_L81] at hf
        cases hf
      | succ n ih =>
        intro hi_48 z1_49 o_81 H locs ls hf hP hD hS hl hr_81 kx_81
        rw [fX8_record_L81] at hf
        refine lv_iload_n hx hb dX8_record_81 rfl (lv_at hl 1 rfl) ?_
        refine lv_sipush (v := 336) hx hb dX8_record_82 (by decide) ?_
        refine lv_icmp_ge (tgt := 115) hx hb dX8_record_85 (by decide) (fun c_51 => ?_) (fun c_51 => ?_)
        · have hf := x_t c_51 hf
          exact kx_81 hi_48 (Option.some.inj hf).symm _ _ _ hP hD hS (lv_sub hl [0] rfl)
        · have hf := x_f c_51 hf
          refine lv_aload_n hx hb dX8_record_88 rfl (lv_at hl 0 rfl) ?_
          refine x_get hx hb (C := RX8) (T := TX8) (N := 16) (ci := 8) hts iX8 hown hK hP 0 rfl rfl 2 (by decide) wd1 rfl (.ref a3) rfl dX8_record_89 ?_
          refine lv_aload_n hx hb dX8_record_92 rfl (lv_at hl 0 rfl) ?_
          refine x_get hx hb (C := RX8) (T := TX8) (N := 16) (ci := 8) hts iX8 hown hK hP 0 rfl rfl 4 (by decide) wd0 rfl (.int rc_37) rfl dX8_record_93 ?_
          refine lv_sipush (v := 336) hx hb dX8_record_96 (by decide) ?_
          refine lv_imul hx hb dX8_record_99 ?_
          refine lv_iload_n hx hb dX8_record_100 rfl (lv_at hl 1 rfl) ?_
          refine lv_iadd hx hb dX8_record_101 ?_
          refine lv_aload_n hx hb dX8_record_102 rfl (lv_at hl 0 rfl) ?_
          refine x_get hx hb (C := RX8) (T := TX8) (N := 16) (ci := 8) hts iX8 hown hK hP 0 rfl rfl 0 (by decide) wd2 rfl (.ref a1) rfl dX8_record_103 ?_
          refine lv_iload_n hx hb dX8_record_106 rfl (lv_at hl 1 rfl) ?_
          obtain ⟨hi_52, hf⟩ := ckI_el hf
          refine va_iald hx hb hK hP 1 1 rfl rfl hi_52 dX8_record_107 ?_
          obtain ⟨hi_53, hf⟩ := ckI_el hf
          obtain ⟨hi_54, ehi_54, hf⟩ := lt_el hf
          refine x_iast hx hb hK hP hD hS 3 rfl hi_53 ehi_54 (w' := wX8 cy a0 a1 a2 a3 a4 a5 a6 st gr hi_54 gh_36 rc_37 tx tl rk tb tk at_ ltr on_ tw th nu) rfl dX8_record_108 (fun H locs hP hD hS => ?_)
          refine lv_iinc (v := (z1_49 + 1)) (lv' := [(1, .int (z1_49 + 1)), (0, .ref a0)]) hx hb dX8_record_109 hl (k := 1) rfl rfl (by decide) rfl (fun ls hl => ?_)
          refine lv_goto (tgt := 81) hx hb dX8_record_112 (by decide) ?_
          exact ih hi_54 (z1_49 + 1) _ _ _ _ hf hP hD hS (lv_sub hl [1, 0] rfl) hr_81 kx_81
    obtain ⟨hi_38, h1_81, hf⟩ := bd1_el hf
    refine hL_81 2147483648 hi_31 0 _ _ _ _ h1_81 hP hD hS (lv_sub hl [1, 0] rfl) trivial (fun hi_389 ho H locs ls hP hD hS hl => ?_)
    cases ho
    refine lv_iconst (v := 0) hx hb dX8_record_115 (by decide) ?_
    refine lv_istore_n (lv' := [(1, .int 0), (0, .ref a0)]) hx hb dX8_record_116 rfl hl (by decide) rfl (fun ls hl => ?_)
    have hL_117 : ∀ (n : Nat) (gh_41 : Nat → Int64) (z1_42 : Int32) (o : (Nat → Int64)) (H : Heap) (locs : List Loc) (ls : Array Slot), fX8_record_L117 gr rc_37 n gh_41 z1_42 = some o → va_P D vwCl (wX8 cy a0 a1 a2 a3 a4 a5 a6 st gr hi_38 gh_41 rc_37 tx tl rk tb tk at_ ltr on_ tw th nu) H → va_D A (wX8 cy a0 a1 a2 a3 a4 a5 a6 st gr hi_38 gh_41 rc_37 tx tl rk tb tk at_ ltr on_ tw th nu) → va_S A s.heap H locs → lv_has ls 2 [(0, .ref a0), (1, .int z1_42)] → True → ((∀ (gh_43 : Nat → Int64) , o = gh_43 → ∀ (H : Heap) (locs : List Loc) (ls : Array Slot), va_P D vwCl (wX8 cy a0 a1 a2 a3 a4 a5 a6 st gr hi_38 gh_43 rc_37 tx tl rk tb tk at_ ltr on_ tw th nu) H → va_D A (wX8 cy a0 a1 a2 a3 a4 a5 a6 st gr hi_38 gh_43 rc_37 tx tl rk tb tk at_ ltr on_ tw th nu) → va_S A s.heap H locs → lv_has ls 2 [(0, .ref a0)] → W p l e rmX8_record s m ([.ref a0] : List Value).toArray below meth c H locs 0 0 (MQ below (xQv D cy (wX8 cy a0 a1 a2 a3 a4 a5 a6 st gr hi' gh' rc' tx tl rk tb tk at_ ltr on_ tw th nu) A) ([.ref a0] : List Value).toArray s 0 0 A) (F0 m 149 ls []))) → W p l e rmX8_record s m ([.ref a0] : List Value).toArray below meth c H locs 0 0 (MQ below (xQv D cy (wX8 cy a0 a1 a2 a3 a4 a5 a6 st gr hi' gh' rc' tx tl rk tb tk at_ ltr on_ tw th nu) A) ([.ref a0] : List Value).toArray s 0 0 A) (F0 m 117 ls []) := by
      intro n
      induction n with
      | zero =>
        intro gh_41 z1_42 o_117 H locs ls hf
        rw [fX8_record_L117] at hf
        cases hf
      | succ n ih =>
        intro gh_41 z1_42 o_117 H locs ls hf hP hD hS hl hr_117 kx_117
        rw [fX8_record_L117] at hf
        refine lv_iload_n hx hb dX8_record_117 rfl (lv_at hl 1 rfl) ?_
        refine lv_bipush (v := 16) hx hb dX8_record_118 (by decide) ?_
        refine lv_icmp_ge (tgt := 149) hx hb dX8_record_120 (by decide) (fun c_44 => ?_) (fun c_44 => ?_)
        · have hf := x_t c_44 hf
          exact kx_117 gh_41 (Option.some.inj hf).symm _ _ _ hP hD hS (lv_sub hl [0] rfl)
        · have hf := x_f c_44 hf
          refine lv_aload_n hx hb dX8_record_123 rfl (lv_at hl 0 rfl) ?_
          refine x_get hx hb (C := RX8) (T := TX8) (N := 16) (ci := 8) hts iX8 hown hK hP 0 rfl rfl 3 (by decide) wd3 rfl (.ref a4) rfl dX8_record_124 ?_
          refine lv_aload_n hx hb dX8_record_127 rfl (lv_at hl 0 rfl) ?_
          refine x_get hx hb (C := RX8) (T := TX8) (N := 16) (ci := 8) hts iX8 hown hK hP 0 rfl rfl 4 (by decide) wd0 rfl (.int rc_37) rfl dX8_record_128 ?_
          refine lv_bipush (v := 16) hx hb dX8_record_131 (by decide) ?_
          refine lv_imul hx hb dX8_record_133 ?_
          refine lv_iload_n hx hb dX8_record_134 rfl (lv_at hl 1 rfl) ?_
          refine lv_iadd hx hb dX8_record_135 ?_
          refine lv_aload_n hx hb dX8_record_136 rfl (lv_at hl 0 rfl) ?_
          refine x_get hx hb (C := RX8) (T := TX8) (N := 16) (ci := 8) hts iX8 hown hK hP 0 rfl rfl 1 (by decide) wd4 rfl (.ref a2) rfl dX8_record_137 ?_
          refine lv_iload_n hx hb dX8_record_140 rfl (lv_at hl 1 rfl) ?_
          obtain ⟨hi_45, hf⟩ := ckI_el hf
          refine va_lald hx hb hK hP 2 2 rfl rfl hi_45 dX8_record_141 ?_
          obtain ⟨hi_46, hf⟩ := ckI_el hf
          obtain ⟨gh_47, egh_47, hf⟩ := lt_el hf
          refine x_last hx hb hK hP hD hS 4 rfl hi_46 egh_47 (w' := wX8 cy a0 a1 a2 a3 a4 a5 a6 st gr hi_38 gh_47 rc_37 tx tl rk tb tk at_ ltr on_ tw th nu) rfl dX8_record_142 (fun H locs hP hD hS => ?_)
          refine lv_iinc (v := (z1_42 + 1)) (lv' := [(1, .int (z1_42 + 1)), (0, .ref a0)]) hx hb dX8_record_143 hl (k := 1) rfl rfl (by decide) rfl (fun ls hl => ?_)
          refine lv_goto (tgt := 117) hx hb dX8_record_146 (by decide) ?_
          exact ih gh_47 (z1_42 + 1) _ _ _ _ hf hP hD hS (lv_sub hl [1, 0] rfl) hr_117 kx_117
    obtain ⟨gh_39, h1_117, hf⟩ := bd1_el hf
    refine hL_117 2147483648 gh_36 0 _ _ _ _ h1_117 hP hD hS (lv_sub hl [1, 0] rfl) trivial (fun gh_399 ho H locs ls hP hD hS hl => ?_)
    cases ho
    refine lv_aload_n hx hb dX8_record_149 rfl (lv_at hl 0 rfl) ?_
    refine lv_dup hx hb dX8_record_150 rfl ?_
    refine x_get hx hb (C := RX8) (T := TX8) (N := 16) (ci := 8) hts iX8 hown hK hP 0 rfl rfl 4 (by decide) wd0 rfl (.int rc_37) rfl dX8_record_151 ?_
    refine lv_iconst (v := 1) hx hb dX8_record_154 (by decide) ?_
    refine lv_iadd hx hb dX8_record_155 ?_
    obtain ⟨rc_40, erc_40, hf⟩ := lt_el hf
    refine x_topi erc_40 ?_
    refine x_put hx hb (C := RX8) (T := TX8) (N := 16) (ci := 8) hts iX8 tyX8 tyX8_ok nmX8 hown hK hP hD hS 0 rfl rfl 4 (by decide) wd0 rfl rfl (ty := .int) rfl rfl rfl (Nat.le_of_ble_eq_true rfl) (w' := wX8 cy a0 a1 a2 a3 a4 a5 a6 st gr hi_38 gh_39 rc_40 tx tl rk tb tk at_ ltr on_ tw th nu) rfl dX8_record_156 (fun H locs hP hD hS => ?_)
    have hf := Option.some.inj hf
    cases hf
    exact x_vret hx hb hr hlocks hK hP hD hS dX8_record_159
theorem kdX8_part : yX8_part.cls = RX8 ∧ yX8_part.cls ≠ "java/lang/invoke/MethodHandle" ∧ yX8_part.cls ≠ "java/lang/invoke/VarHandle" ∧ (parseMethodDescriptor yX8_part.desc).map (fun d => d.parameters.length) = some 2 := by decide +kernel
def rmX8_part : Room := { frames := 0, cells := 0, slots := 0, locals := 0 }
set_option maxHeartbeats 4000000 in
set_option maxRecDepth 100000 in
theorem mX8_part (l : Launch) (D : va_G) (cy : Nat → ClassId) (a0 a1 a2 a3 a4 a5 a6 : Nat) (st : Nat → Int32) (gr : Nat → Int64) (hi : Nat → Int32) (gh : Nat → Int64) (rc : Int32) (tx : Nat → Int32) (tl : Int32) (rk : Nat → Int32) (tb : Int32) (tk : Int64) (at_ : Int32) (ltr : Int32) (on_ : Int32) (tw : Int32) (th : Int32) (nu : Int32) (p1 : Int32) (p2 : Int32) (r : Int32) (hf : fX8_part st p1 p2 = some r) : xMi l D cy yX8_part aX8_part rmX8_part ([.ref a0, .int p1, .int p2] : List Value) (wX8 cy a0 a1 a2 a3 a4 a5 a6 st gr hi gh rc tx tl rk tb tk at_ ltr on_ tw th nu) (wX8 cy a0 a1 a2 a3 a4 a5 a6 st gr hi gh rc tx tl rk tb tk at_ ltr on_ tw th nu) r := by
  intro hz
  refine x_start (Qc := xQi D cy _ r) (cc := cX8_part) (maxL := 3) (ret := (some .int)) (by decide) rfl (Nat.le_of_ble_eq_true rfl) (lv := [(0, .ref a0), (1, .int p1), (2, .int p2)]) rfl ?_
  intro p e s m below meth c ls A hx hb hr hml hown hts hlocks hK hP hD hS hA hN hl
  have hown : s.vm.findClass RX8 = some m.cls := hown
  have hbg : ∀ w ∈ wsL_law, w ∈ aX8_part := fun w h => List.mem_cons_of_mem _ h
  have wd0 : (Cond.fieldLink RX8 7 "ClientMoneyBookModel" "state" "[I").before ([.ref a0, .int p1, .int p2] : List Value).toArray s = true := hts _ (List.mem_cons_of_mem _ wm_4_9)
  have iX8 : ∀ w ∈ u_ws RX8 TX8 16, w ∈ aX8_part := fun w h => List.mem_cons_of_mem _ (inlX8 w h)
  unfold fX8_part at hf
  refine lv_aload_n hx hb dX8_part_0 rfl (lv_at hl 0 rfl) ?_
  refine x_get hx hb (C := RX8) (T := TX8) (N := 16) (ci := 8) hts iX8 hown hK hP 0 rfl rfl 0 (by decide) wd0 rfl (.ref a1) rfl dX8_part_1 ?_
  refine lv_bipush (v := 12) hx hb dX8_part_4 (by decide) ?_
  refine lv_iconst (v := 3) hx hb dX8_part_6 (by decide) ?_
  refine lv_iload_n hx hb dX8_part_7 rfl (lv_at hl 1 rfl) ?_
  refine lv_imul hx hb dX8_part_8 ?_
  refine lv_iadd hx hb dX8_part_9 ?_
  refine lv_iload_n hx hb dX8_part_10 rfl (lv_at hl 2 rfl) ?_
  refine lv_iadd hx hb dX8_part_11 ?_
  obtain ⟨hi_1, hf⟩ := ckI_el hf
  refine va_iald hx hb hK hP 1 1 rfl rfl hi_1 dX8_part_12 ?_
  have hf := Option.some.inj hf
  cases hf
  exact x_iret hx hb hr hlocks hK hP hD hS dX8_part_13
theorem kdX8_setPart : yX8_setPart.cls = RX8 ∧ yX8_setPart.cls ≠ "java/lang/invoke/MethodHandle" ∧ yX8_setPart.cls ≠ "java/lang/invoke/VarHandle" ∧ (parseMethodDescriptor yX8_setPart.desc).map (fun d => d.parameters.length) = some 3 := by decide +kernel
def rmX8_setPart : Room := { frames := 0, cells := 0, slots := 0, locals := 0 }
set_option maxHeartbeats 4000000 in
set_option maxRecDepth 100000 in
theorem mX8_setPart (l : Launch) (D : va_G) (cy : Nat → ClassId) (a0 a1 a2 a3 a4 a5 a6 : Nat) (st : Nat → Int32) (gr : Nat → Int64) (hi : Nat → Int32) (gh : Nat → Int64) (rc : Int32) (tx : Nat → Int32) (tl : Int32) (rk : Nat → Int32) (tb : Int32) (tk : Int64) (at_ : Int32) (ltr : Int32) (on_ : Int32) (tw : Int32) (th : Int32) (nu : Int32) (p1 : Int32) (p2 : Int32) (p3 : Int32) (st' : Nat → Int32) (hf : fX8_setPart st p1 p2 p3 = some st') : xMv l D cy yX8_setPart aX8_setPart rmX8_setPart ([.ref a0, .int p1, .int p2, .int p3] : List Value) (wX8 cy a0 a1 a2 a3 a4 a5 a6 st gr hi gh rc tx tl rk tb tk at_ ltr on_ tw th nu) (wX8 cy a0 a1 a2 a3 a4 a5 a6 st' gr hi gh rc tx tl rk tb tk at_ ltr on_ tw th nu) := by
  intro hz
  refine x_start (Qc := xQv D cy _) (cc := cX8_setPart) (maxL := 4) (ret := none) (by decide) rfl (Nat.le_of_ble_eq_true rfl) (lv := [(0, .ref a0), (1, .int p1), (2, .int p2), (3, .int p3)]) rfl ?_
  intro p e s m below meth c ls A hx hb hr hml hown hts hlocks hK hP hD hS hA hN hl
  have hown : s.vm.findClass RX8 = some m.cls := hown
  have hbg : ∀ w ∈ wsL_law, w ∈ aX8_setPart := fun w h => List.mem_cons_of_mem _ h
  have wd0 : (Cond.fieldLink RX8 7 "ClientMoneyBookModel" "state" "[I").before ([.ref a0, .int p1, .int p2, .int p3] : List Value).toArray s = true := hts _ (List.mem_cons_of_mem _ wm_4_9)
  have iX8 : ∀ w ∈ u_ws RX8 TX8 16, w ∈ aX8_setPart := fun w h => List.mem_cons_of_mem _ (inlX8 w h)
  unfold fX8_setPart at hf
  refine lv_aload_n hx hb dX8_setPart_0 rfl (lv_at hl 0 rfl) ?_
  refine x_get hx hb (C := RX8) (T := TX8) (N := 16) (ci := 8) hts iX8 hown hK hP 0 rfl rfl 0 (by decide) wd0 rfl (.ref a1) rfl dX8_setPart_1 ?_
  refine lv_bipush (v := 12) hx hb dX8_setPart_4 (by decide) ?_
  refine lv_iconst (v := 3) hx hb dX8_setPart_6 (by decide) ?_
  refine lv_iload_n hx hb dX8_setPart_7 rfl (lv_at hl 1 rfl) ?_
  refine lv_imul hx hb dX8_setPart_8 ?_
  refine lv_iadd hx hb dX8_setPart_9 ?_
  refine lv_iload_n hx hb dX8_setPart_10 rfl (lv_at hl 2 rfl) ?_
  refine lv_iadd hx hb dX8_setPart_11 ?_
  refine lv_iload_n hx hb dX8_setPart_12 rfl (lv_at hl 3 rfl) ?_
  obtain ⟨hi_1, hf⟩ := ckI_el hf
  obtain ⟨st_2, est_2, hf⟩ := lt_el hf
  refine x_iast hx hb hK hP hD hS 1 rfl hi_1 est_2 (w' := wX8 cy a0 a1 a2 a3 a4 a5 a6 st_2 gr hi gh rc tx tl rk tb tk at_ ltr on_ tw th nu) rfl dX8_setPart_13 (fun H locs hP hD hS => ?_)
  have hf := Option.some.inj hf
  cases hf
  exact x_vret hx hb hr hlocks hK hP hD hS dX8_setPart_14
theorem kdX8_find : yX8_find.cls = RX8 ∧ yX8_find.cls ≠ "java/lang/invoke/MethodHandle" ∧ yX8_find.cls ≠ "java/lang/invoke/VarHandle" ∧ (parseMethodDescriptor yX8_find.desc).map (fun d => d.parameters.length) = some 1 := by decide +kernel
def rmX8_find : Room := { frames := 1, cells := 0, slots := 0, locals := 22 }
set_option maxHeartbeats 4000000 in
set_option maxRecDepth 100000 in
theorem mX8_find (l : Launch) (D : va_G) (cy : Nat → ClassId) (a0 a1 a2 a3 a4 a5 a6 : Nat) (st : Nat → Int32) (gr : Nat → Int64) (hi : Nat → Int32) (gh : Nat → Int64) (rc : Int32) (tx : Nat → Int32) (tl : Int32) (rk : Nat → Int32) (tb : Int32) (tk : Int64) (at_ : Int32) (ltr : Int32) (on_ : Int32) (tw : Int32) (th : Int32) (nu : Int32) (p1 : Int32) (r : Int32) (hf : fX8_find st p1 = some r) : xMi l D cy yX8_find aX8_find rmX8_find ([.ref a0, .int p1] : List Value) (wX8 cy a0 a1 a2 a3 a4 a5 a6 st gr hi gh rc tx tl rk tb tk at_ ltr on_ tw th nu) (wX8 cy a0 a1 a2 a3 a4 a5 a6 st gr hi gh rc tx tl rk tb tk at_ ltr on_ tw th nu) r := by
  intro hz
  refine x_start (Qc := xQi D cy _ r) (cc := cX8_find) (maxL := 4) (ret := (some .int)) (by decide) rfl (Nat.le_of_ble_eq_true rfl) (lv := [(0, .ref a0), (1, .int p1)]) rfl ?_
  intro p e s m below meth c ls A hx hb hr hml hown hts hlocks hK hP hD hS hA hN hl
  have hown : s.vm.findClass RX8 = some m.cls := hown
  have hbg : ∀ w ∈ wsL_law, w ∈ aX8_find := fun w h => List.mem_cons_of_mem _ h
  have wd0 : (Cond.fieldLink RX8 7 "ClientMoneyBookModel" "state" "[I").before ([.ref a0, .int p1] : List Value).toArray s = true := hts _ (List.mem_cons_of_mem _ wm_4_9)
  have iX8 : ∀ w ∈ u_ws RX8 TX8 16, w ∈ aX8_find := fun w h => List.mem_cons_of_mem _ (inlX8 w h)
  unfold fX8_find at hf
  refine lv_bipush (v := (-6)) hx hb dX8_find_0 (by decide) ?_
  refine lv_istore_n (lv' := [(2, .int (-6)), (0, .ref a0), (1, .int p1)]) hx hb dX8_find_2 rfl hl (by decide) rfl (fun ls hl => ?_)
  refine lv_iconst (v := 0) hx hb dX8_find_3 (by decide) ?_
  refine lv_istore_n (lv' := [(3, .int 0), (2, .int (-6)), (0, .ref a0), (1, .int p1)]) hx hb dX8_find_4 rfl hl (by decide) rfl (fun ls hl => ?_)
  have hL_5 : ∀ (n : Nat) (z2_7 : Int32) (z3_8 : Int32) (o : Int32) (H : Heap) (locs : List Loc) (ls : Array Slot), fX8_find_L5 st p1 n z2_7 z3_8 = some o → va_P D vwCl (wX8 cy a0 a1 a2 a3 a4 a5 a6 st gr hi gh rc tx tl rk tb tk at_ ltr on_ tw th nu) H → va_D A (wX8 cy a0 a1 a2 a3 a4 a5 a6 st gr hi gh rc tx tl rk tb tk at_ ltr on_ tw th nu) → va_S A s.heap H locs → lv_has ls 4 [(0, .ref a0), (1, .int p1), (2, .int z2_7), (3, .int z3_8)] → True → ((∀ (x2_9 : Int32) , o = x2_9 → ∀ (H : Heap) (locs : List Loc) (ls : Array Slot), va_P D vwCl (wX8 cy a0 a1 a2 a3 a4 a5 a6 st gr hi gh rc tx tl rk tb tk at_ ltr on_ tw th nu) H → va_D A (wX8 cy a0 a1 a2 a3 a4 a5 a6 st gr hi gh rc tx tl rk tb tk at_ ltr on_ tw th nu) → va_S A s.heap H locs → lv_has ls 4 [(2, .int x2_9)] → W p l e rmX8_find s m ([.ref a0, .int p1] : List Value).toArray below meth c H locs 0 0 (MQ below (xQi D cy (wX8 cy a0 a1 a2 a3 a4 a5 a6 st gr hi gh rc tx tl rk tb tk at_ ltr on_ tw th nu) r A) ([.ref a0, .int p1] : List Value).toArray s 0 0 A) (F0 m 37 ls []))) → W p l e rmX8_find s m ([.ref a0, .int p1] : List Value).toArray below meth c H locs 0 0 (MQ below (xQi D cy (wX8 cy a0 a1 a2 a3 a4 a5 a6 st gr hi gh rc tx tl rk tb tk at_ ltr on_ tw th nu) r A) ([.ref a0, .int p1] : List Value).toArray s 0 0 A) (F0 m 5 ls []) := by
    intro n
    induction n with
    | zero =>
      intro z2_7 z3_8 o_5 H locs ls hf
      rw [fX8_find_L5] at hf
      cases hf
    | succ n ih =>
      intro z2_7 z3_8 o_5 H locs ls hf hP hD hS hl hr_5 kx_5
      rw [fX8_find_L5] at hf
      refine lv_iload_n hx hb dX8_find_5 rfl (lv_at hl 3 rfl) ?_
      refine lv_aload_n hx hb dX8_find_6 rfl (lv_at hl 0 rfl) ?_
      refine x_get hx hb (C := RX8) (T := TX8) (N := 16) (ci := 8) hts iX8 hown hK hP 0 rfl rfl 0 (by decide) wd0 rfl (.ref a1) rfl dX8_find_7 ?_
      refine lv_iconst (v := 5) hx hb dX8_find_10 (by decide) ?_
      obtain ⟨hi_10, hf⟩ := ckI_el hf
      refine va_iald hx hb hK hP 1 1 rfl rfl hi_10 dX8_find_11 ?_
      refine lv_icmp_ge (tgt := 37) hx hb dX8_find_12 (by decide) (fun c_11 => ?_) (fun c_11 => ?_)
      · have hf := x_t c_11 hf
        exact kx_5 z2_7 (Option.some.inj hf).symm _ _ _ hP hD hS (lv_sub hl [2] rfl)
      · have hf := x_f c_11 hf
        refine lv_aload_n hx hb dX8_find_15 rfl (lv_at hl 0 rfl) ?_
        refine lv_iload_n hx hb dX8_find_16 rfl (lv_at hl 3 rfl) ?_
        refine lv_iconst (v := 0) hx hb dX8_find_17 (by decide) ?_
        obtain ⟨r_12, h_13, hf⟩ := bd1_el hf
        refine x_callVi (As := [.int z3_8, .int 0]) (rest := []) ⟨hx, hb, hml, hown, hts⟩ (mX8_part l D cy a0 a1 a2 a3 a4 a5 a6 st gr hi gh rc tx tl rk tb tk at_ ltr on_ tw th nu z3_8 0 r_12 h_13) (cwV 2 hts (gcV_X8_part hbg wm_9_9) rfl rfl rfl kdX8_part ⟨Nat.le_of_ble_eq_true rfl, Nat.le_of_ble_eq_true rfl⟩) (w1 := []) (w2 := []) (w' := wX8 cy a0 a1 a2 a3 a4 a5 a6 st gr hi gh rc tx tl rk tb tk at_ ltr on_ tw th nu) (List.append_nil _) (List.append_nil _) hP hK hD hN hS hA (q0 := 0) rfl rfl rfl rfl hl rfl (Nat.le_of_ble_eq_true rfl) dX8_find_18 ⟨Nat.zero_le _, Nat.zero_le _⟩ (fun H locs hP hD hS => ?_)
        refine lv_iload_n hx hb dX8_find_21 rfl (lv_at hl 1 rfl) ?_
        refine lv_icmp_ne (tgt := 29) hx hb dX8_find_22 (by decide) (fun c_14 => ?_) (fun c_14 => ?_)
        · have hf := x_f c_14 hf
          refine lv_iload_n hx hb dX8_find_29 rfl (lv_at hl 2 rfl) ?_
          refine lv_istore_n (lv' := [(2, .int z2_7), (0, .ref a0), (1, .int p1), (3, .int z3_8)]) hx hb dX8_find_30 rfl hl (by decide) rfl (fun ls hl => ?_)
          refine lv_iinc (v := (z3_8 + 1)) (lv' := [(3, .int (z3_8 + 1)), (2, .int z2_7), (0, .ref a0), (1, .int p1)]) hx hb dX8_find_31 hl (k := 3) rfl rfl (by decide) rfl (fun ls hl => ?_)
          refine lv_goto (tgt := 5) hx hb dX8_find_34 (by decide) ?_
          exact ih z2_7 (z3_8 + 1) _ _ _ _ hf hP hD hS (lv_sub hl [2, 3, 1, 0] rfl) hr_5 kx_5
        · have hf := x_t c_14 hf
          refine lv_iload_n hx hb dX8_find_25 rfl (lv_at hl 3 rfl) ?_
          refine lv_goto (tgt := 30) hx hb dX8_find_26 (by decide) ?_
          refine lv_istore_n (lv' := [(2, .int z3_8), (0, .ref a0), (1, .int p1), (3, .int z3_8)]) hx hb dX8_find_30 rfl hl (by decide) rfl (fun ls hl => ?_)
          refine lv_iinc (v := (z3_8 + 1)) (lv' := [(3, .int (z3_8 + 1)), (2, .int z3_8), (0, .ref a0), (1, .int p1)]) hx hb dX8_find_31 hl (k := 3) rfl rfl (by decide) rfl (fun ls hl => ?_)
          refine lv_goto (tgt := 5) hx hb dX8_find_34 (by decide) ?_
          exact ih z3_8 (z3_8 + 1) _ _ _ _ hf hP hD hS (lv_sub hl [2, 3, 1, 0] rfl) hr_5 kx_5
  obtain ⟨x2_6, h1_5, hf⟩ := bd1_el hf
  refine hL_5 2147483648 (-6) 0 _ _ _ _ h1_5 hP hD hS (lv_sub hl [2, 3, 1, 0] rfl) trivial (fun x2_69 ho H locs ls hP hD hS hl => ?_)
  cases ho
  refine lv_iload_n hx hb dX8_find_37 rfl (lv_at hl 0 rfl) ?_
  have hf := Option.some.inj hf
  cases hf
  exact x_iret hx hb hr hlocks hK hP hD hS dX8_find_38
theorem kdX8_holdPart : yX8_holdPart.cls = RX8 ∧ yX8_holdPart.cls ≠ "java/lang/invoke/MethodHandle" ∧ yX8_holdPart.cls ≠ "java/lang/invoke/VarHandle" ∧ (parseMethodDescriptor yX8_holdPart.desc).map (fun d => d.parameters.length) = some 2 := by decide +kernel
def rmX8_holdPart : Room := { frames := 0, cells := 0, slots := 0, locals := 0 }
set_option maxHeartbeats 4000000 in
set_option maxRecDepth 100000 in
theorem mX8_holdPart (l : Launch) (D : va_G) (cy : Nat → ClassId) (a0 a1 a2 a3 a4 a5 a6 : Nat) (st : Nat → Int32) (gr : Nat → Int64) (hi : Nat → Int32) (gh : Nat → Int64) (rc : Int32) (tx : Nat → Int32) (tl : Int32) (rk : Nat → Int32) (tb : Int32) (tk : Int64) (at_ : Int32) (ltr : Int32) (on_ : Int32) (tw : Int32) (th : Int32) (nu : Int32) (p1 : Int32) (p2 : Int32) (r : Int32) (hf : fX8_holdPart st p1 p2 = some r) : xMi l D cy yX8_holdPart aX8_holdPart rmX8_holdPart ([.ref a0, .int p1, .int p2] : List Value) (wX8 cy a0 a1 a2 a3 a4 a5 a6 st gr hi gh rc tx tl rk tb tk at_ ltr on_ tw th nu) (wX8 cy a0 a1 a2 a3 a4 a5 a6 st gr hi gh rc tx tl rk tb tk at_ ltr on_ tw th nu) r := by
  intro hz
  refine x_start (Qc := xQi D cy _ r) (cc := cX8_holdPart) (maxL := 3) (ret := (some .int)) (by decide) rfl (Nat.le_of_ble_eq_true rfl) (lv := [(0, .ref a0), (1, .int p1), (2, .int p2)]) rfl ?_
  intro p e s m below meth c ls A hx hb hr hml hown hts hlocks hK hP hD hS hA hN hl
  have hown : s.vm.findClass RX8 = some m.cls := hown
  have hbg : ∀ w ∈ wsL_law, w ∈ aX8_holdPart := fun w h => List.mem_cons_of_mem _ h
  have wd0 : (Cond.fieldLink RX8 7 "ClientMoneyBookModel" "state" "[I").before ([.ref a0, .int p1, .int p2] : List Value).toArray s = true := hts _ (List.mem_cons_of_mem _ wm_4_9)
  have iX8 : ∀ w ∈ u_ws RX8 TX8 16, w ∈ aX8_holdPart := fun w h => List.mem_cons_of_mem _ (inlX8 w h)
  unfold fX8_holdPart at hf
  refine lv_aload_n hx hb dX8_holdPart_0 rfl (lv_at hl 0 rfl) ?_
  refine x_get hx hb (C := RX8) (T := TX8) (N := 16) (ci := 8) hts iX8 hown hK hP 0 rfl rfl 0 (by decide) wd0 rfl (.ref a1) rfl dX8_holdPart_1 ?_
  refine lv_bipush (v := 48) hx hb dX8_holdPart_4 (by decide) ?_
  refine lv_iconst (v := 4) hx hb dX8_holdPart_6 (by decide) ?_
  refine lv_iload_n hx hb dX8_holdPart_7 rfl (lv_at hl 1 rfl) ?_
  refine lv_imul hx hb dX8_holdPart_8 ?_
  refine lv_iadd hx hb dX8_holdPart_9 ?_
  refine lv_iload_n hx hb dX8_holdPart_10 rfl (lv_at hl 2 rfl) ?_
  refine lv_iadd hx hb dX8_holdPart_11 ?_
  obtain ⟨hi_1, hf⟩ := ckI_el hf
  refine va_iald hx hb hK hP 1 1 rfl rfl hi_1 dX8_holdPart_12 ?_
  have hf := Option.some.inj hf
  cases hf
  exact x_iret hx hb hr hlocks hK hP hD hS dX8_holdPart_13
theorem kdX8_billPart : yX8_billPart.cls = RX8 ∧ yX8_billPart.cls ≠ "java/lang/invoke/MethodHandle" ∧ yX8_billPart.cls ≠ "java/lang/invoke/VarHandle" ∧ (parseMethodDescriptor yX8_billPart.desc).map (fun d => d.parameters.length) = some 2 := by decide +kernel
def rmX8_billPart : Room := { frames := 0, cells := 0, slots := 0, locals := 0 }
set_option maxHeartbeats 4000000 in
set_option maxRecDepth 100000 in
theorem mX8_billPart (l : Launch) (D : va_G) (cy : Nat → ClassId) (a0 a1 a2 a3 a4 a5 a6 : Nat) (st : Nat → Int32) (gr : Nat → Int64) (hi : Nat → Int32) (gh : Nat → Int64) (rc : Int32) (tx : Nat → Int32) (tl : Int32) (rk : Nat → Int32) (tb : Int32) (tk : Int64) (at_ : Int32) (ltr : Int32) (on_ : Int32) (tw : Int32) (th : Int32) (nu : Int32) (p1 : Int32) (p2 : Int32) (r : Int32) (hf : fX8_billPart st p1 p2 = some r) : xMi l D cy yX8_billPart aX8_billPart rmX8_billPart ([.ref a0, .int p1, .int p2] : List Value) (wX8 cy a0 a1 a2 a3 a4 a5 a6 st gr hi gh rc tx tl rk tb tk at_ ltr on_ tw th nu) (wX8 cy a0 a1 a2 a3 a4 a5 a6 st gr hi gh rc tx tl rk tb tk at_ ltr on_ tw th nu) r := by
  intro hz
  refine x_start (Qc := xQi D cy _ r) (cc := cX8_billPart) (maxL := 3) (ret := (some .int)) (by decide) rfl (Nat.le_of_ble_eq_true rfl) (lv := [(0, .ref a0), (1, .int p1), (2, .int p2)]) rfl ?_
  intro p e s m below meth c ls A hx hb hr hml hown hts hlocks hK hP hD hS hA hN hl
  have hown : s.vm.findClass RX8 = some m.cls := hown
  have hbg : ∀ w ∈ wsL_law, w ∈ aX8_billPart := fun w h => List.mem_cons_of_mem _ h
  have wd0 : (Cond.fieldLink RX8 7 "ClientMoneyBookModel" "state" "[I").before ([.ref a0, .int p1, .int p2] : List Value).toArray s = true := hts _ (List.mem_cons_of_mem _ wm_4_9)
  have iX8 : ∀ w ∈ u_ws RX8 TX8 16, w ∈ aX8_billPart := fun w h => List.mem_cons_of_mem _ (inlX8 w h)
  unfold fX8_billPart at hf
  refine lv_aload_n hx hb dX8_billPart_0 rfl (lv_at hl 0 rfl) ?_
  refine x_get hx hb (C := RX8) (T := TX8) (N := 16) (ci := 8) hts iX8 hown hK hP 0 rfl rfl 0 (by decide) wd0 rfl (.ref a1) rfl dX8_billPart_1 ?_
  refine lv_bipush (v := 108) hx hb dX8_billPart_4 (by decide) ?_
  refine lv_iconst (v := 4) hx hb dX8_billPart_6 (by decide) ?_
  refine lv_iload_n hx hb dX8_billPart_7 rfl (lv_at hl 1 rfl) ?_
  refine lv_imul hx hb dX8_billPart_8 ?_
  refine lv_iadd hx hb dX8_billPart_9 ?_
  refine lv_iload_n hx hb dX8_billPart_10 rfl (lv_at hl 2 rfl) ?_
  refine lv_iadd hx hb dX8_billPart_11 ?_
  obtain ⟨hi_1, hf⟩ := ckI_el hf
  refine va_iald hx hb hK hP 1 1 rfl rfl hi_1 dX8_billPart_12 ?_
  have hf := Option.some.inj hf
  cases hf
  exact x_iret hx hb hr hlocks hK hP hD hS dX8_billPart_13
theorem kdX8_heldOn : yX8_heldOn.cls = RX8 ∧ yX8_heldOn.cls ≠ "java/lang/invoke/MethodHandle" ∧ yX8_heldOn.cls ≠ "java/lang/invoke/VarHandle" ∧ (parseMethodDescriptor yX8_heldOn.desc).map (fun d => d.parameters.length) = some 2 := by decide +kernel
def rmX8_heldOn : Room := { frames := 1, cells := 0, slots := 0, locals := 22 }
set_option maxHeartbeats 4000000 in
set_option maxRecDepth 100000 in
theorem mX8_heldOn (l : Launch) (D : va_G) (cy : Nat → ClassId) (a0 a1 a2 a3 a4 a5 a6 : Nat) (st : Nat → Int32) (gr : Nat → Int64) (hi : Nat → Int32) (gh : Nat → Int64) (rc : Int32) (tx : Nat → Int32) (tl : Int32) (rk : Nat → Int32) (tb : Int32) (tk : Int64) (at_ : Int32) (ltr : Int32) (on_ : Int32) (tw : Int32) (th : Int32) (nu : Int32) (p1 : Int32) (p2 : Int32) (r : Int32) (hf : fX8_heldOn st p1 p2 = some r) : xMi l D cy yX8_heldOn aX8_heldOn rmX8_heldOn ([.ref a0, .int p1, .int p2] : List Value) (wX8 cy a0 a1 a2 a3 a4 a5 a6 st gr hi gh rc tx tl rk tb tk at_ ltr on_ tw th nu) (wX8 cy a0 a1 a2 a3 a4 a5 a6 st gr hi gh rc tx tl rk tb tk at_ ltr on_ tw th nu) r := by
  intro hz
  refine x_start (Qc := xQi D cy _ r) (cc := cX8_heldOn) (maxL := 5) (ret := (some .int)) (by decide) rfl (Nat.le_of_ble_eq_true rfl) (lv := [(0, .ref a0), (1, .int p1), (2, .int p2)]) rfl ?_
  intro p e s m below meth c ls A hx hb hr hml hown hts hlocks hK hP hD hS hA hN hl
  have hown : s.vm.findClass RX8 = some m.cls := hown
  have hbg : ∀ w ∈ wsL_law, w ∈ aX8_heldOn := fun w h => List.mem_cons_of_mem _ h
  have wd0 : (Cond.fieldLink RX8 7 "ClientMoneyBookModel" "state" "[I").before ([.ref a0, .int p1, .int p2] : List Value).toArray s = true := hts _ (List.mem_cons_of_mem _ wm_4_9)
  have iX8 : ∀ w ∈ u_ws RX8 TX8 16, w ∈ aX8_heldOn := fun w h => List.mem_cons_of_mem _ (inlX8 w h)
  unfold fX8_heldOn at hf
  refine lv_iconst (v := 0) hx hb dX8_heldOn_0 (by decide) ?_
  refine lv_istore_n (lv' := [(3, .int 0), (0, .ref a0), (1, .int p1), (2, .int p2)]) hx hb dX8_heldOn_1 rfl hl (by decide) rfl (fun ls hl => ?_)
  refine lv_iconst (v := 0) hx hb dX8_heldOn_2 (by decide) ?_
  refine lv_istore (lv' := [(4, .int 0), (3, .int 0), (0, .ref a0), (1, .int p1), (2, .int p2)]) hx hb dX8_heldOn_3 hl (by decide) rfl (fun ls hl => ?_)
  have hL_5 : ∀ (n : Nat) (z3_15 : Int32) (z4_16 : Int32) (o : Int32) (H : Heap) (locs : List Loc) (ls : Array Slot), fX8_heldOn_L5 st p1 p2 n z3_15 z4_16 = some o → va_P D vwCl (wX8 cy a0 a1 a2 a3 a4 a5 a6 st gr hi gh rc tx tl rk tb tk at_ ltr on_ tw th nu) H → va_D A (wX8 cy a0 a1 a2 a3 a4 a5 a6 st gr hi gh rc tx tl rk tb tk at_ ltr on_ tw th nu) → va_S A s.heap H locs → lv_has ls 5 [(0, .ref a0), (1, .int p1), (2, .int p2), (3, .int z3_15), (4, .int z4_16)] → True → ((∀ (x3_17 : Int32) , o = x3_17 → ∀ (H : Heap) (locs : List Loc) (ls : Array Slot), va_P D vwCl (wX8 cy a0 a1 a2 a3 a4 a5 a6 st gr hi gh rc tx tl rk tb tk at_ ltr on_ tw th nu) H → va_D A (wX8 cy a0 a1 a2 a3 a4 a5 a6 st gr hi gh rc tx tl rk tb tk at_ ltr on_ tw th nu) → va_S A s.heap H locs → lv_has ls 5 [(3, .int x3_17)] → W p l e rmX8_heldOn s m ([.ref a0, .int p1, .int p2] : List Value).toArray below meth c H locs 0 0 (MQ below (xQi D cy (wX8 cy a0 a1 a2 a3 a4 a5 a6 st gr hi gh rc tx tl rk tb tk at_ ltr on_ tw th nu) r A) ([.ref a0, .int p1, .int p2] : List Value).toArray s 0 0 A) (F0 m 59 ls []))) → W p l e rmX8_heldOn s m ([.ref a0, .int p1, .int p2] : List Value).toArray below meth c H locs 0 0 (MQ below (xQi D cy (wX8 cy a0 a1 a2 a3 a4 a5 a6 st gr hi gh rc tx tl rk tb tk at_ ltr on_ tw th nu) r A) ([.ref a0, .int p1, .int p2] : List Value).toArray s 0 0 A) (F0 m 5 ls []) := by
    intro n
    induction n with
    | zero =>
      intro z3_15 z4_16 o_5 H locs ls hf
      rw [fX8_heldOn_L5] at hf
      cases hf
    | succ n ih =>
      intro z3_15 z4_16 o_5 H locs ls hf hP hD hS hl hr_5 kx_5
      rw [fX8_heldOn_L5] at hf
      refine lv_iload hx hb dX8_heldOn_5 (lv_at hl 4 rfl) ?_
      refine lv_aload_n hx hb dX8_heldOn_7 rfl (lv_at hl 0 rfl) ?_
      refine x_get hx hb (C := RX8) (T := TX8) (N := 16) (ci := 8) hts iX8 hown hK hP 0 rfl rfl 0 (by decide) wd0 rfl (.ref a1) rfl dX8_heldOn_8 ?_
      refine lv_bipush (v := 6) hx hb dX8_heldOn_11 (by decide) ?_
      obtain ⟨hi_18, hf⟩ := ckI_el hf
      refine va_iald hx hb hK hP 1 1 rfl rfl hi_18 dX8_heldOn_13 ?_
      refine lv_icmp_ge (tgt := 59) hx hb dX8_heldOn_14 (by decide) (fun c_19 => ?_) (fun c_19 => ?_)
      · have hf := x_t c_19 hf
        exact kx_5 z3_15 (Option.some.inj hf).symm _ _ _ hP hD hS (lv_sub hl [3] rfl)
      · have hf := x_f c_19 hf
        refine lv_iload_n hx hb dX8_heldOn_17 rfl (lv_at hl 3 rfl) ?_
        refine lv_aload_n hx hb dX8_heldOn_18 rfl (lv_at hl 0 rfl) ?_
        refine lv_iload hx hb dX8_heldOn_19 (lv_at hl 4 rfl) ?_
        refine lv_iconst (v := 1) hx hb dX8_heldOn_21 (by decide) ?_
        obtain ⟨r_20, h_21, hf⟩ := bd1_el hf
        refine x_callVi (As := [.int z4_16, .int 1]) (rest := [.int z3_15]) ⟨hx, hb, hml, hown, hts⟩ (mX8_holdPart l D cy a0 a1 a2 a3 a4 a5 a6 st gr hi gh rc tx tl rk tb tk at_ ltr on_ tw th nu z4_16 1 r_20 h_21) (cwV 2 hts (gcV_X8_holdPart hbg wm_15_20) rfl rfl rfl kdX8_holdPart ⟨Nat.le_of_ble_eq_true rfl, Nat.le_of_ble_eq_true rfl⟩) (w1 := []) (w2 := []) (w' := wX8 cy a0 a1 a2 a3 a4 a5 a6 st gr hi gh rc tx tl rk tb tk at_ ltr on_ tw th nu) (List.append_nil _) (List.append_nil _) hP hK hD hN hS hA (q0 := 0) rfl rfl rfl rfl hl rfl (Nat.le_of_ble_eq_true rfl) dX8_heldOn_22 ⟨Nat.zero_le _, Nat.zero_le _⟩ (fun H locs hP hD hS => ?_)
        refine lv_iload_n hx hb dX8_heldOn_25 rfl (lv_at hl 1 rfl) ?_
        refine lv_icmp_ne (tgt := 50) hx hb dX8_heldOn_26 (by decide) (fun c_22 => ?_) (fun c_22 => ?_)
        · have hf := x_f c_22 hf
          refine lv_iconst (v := 0) hx hb dX8_heldOn_50 (by decide) ?_
          refine lv_iadd hx hb dX8_heldOn_51 ?_
          obtain ⟨x3_23, ex3_23, hf⟩ := lt_el hf
          refine x_topi ex3_23 ?_
          refine lv_istore_n (lv' := [(3, .int x3_23), (0, .ref a0), (1, .int p1), (2, .int p2), (4, .int z4_16)]) hx hb dX8_heldOn_52 rfl hl (by decide) rfl (fun ls hl => ?_)
          refine lv_iinc (v := (z4_16 + 1)) (lv' := [(4, .int (z4_16 + 1)), (3, .int x3_23), (0, .ref a0), (1, .int p1), (2, .int p2)]) hx hb dX8_heldOn_53 hl (k := 4) rfl rfl (by decide) rfl (fun ls hl => ?_)
          refine lv_goto (tgt := 5) hx hb dX8_heldOn_56 (by decide) ?_
          exact ih x3_23 (z4_16 + 1) _ _ _ _ hf hP hD hS (lv_sub hl [2, 3, 4, 1, 0] rfl) hr_5 kx_5
        · have hf := x_t c_22 hf
          refine lv_iload_n hx hb dX8_heldOn_29 rfl (lv_at hl 2 rfl) ?_
          refine lv_aload_n hx hb dX8_heldOn_30 rfl (lv_at hl 0 rfl) ?_
          refine lv_iload hx hb dX8_heldOn_31 (lv_at hl 4 rfl) ?_
          refine lv_iconst (v := 3) hx hb dX8_heldOn_33 (by decide) ?_
          obtain ⟨r_24, h_25, hf⟩ := bd1_el hf
          refine x_callVi (As := [.int z4_16, .int 3]) (rest := [.int p2, .int z3_15]) ⟨hx, hb, hml, hown, hts⟩ (mX8_holdPart l D cy a0 a1 a2 a3 a4 a5 a6 st gr hi gh rc tx tl rk tb tk at_ ltr on_ tw th nu z4_16 3 r_24 h_25) (cwV 2 hts (gcV_X8_holdPart hbg wm_15_20) rfl rfl rfl kdX8_holdPart ⟨Nat.le_of_ble_eq_true rfl, Nat.le_of_ble_eq_true rfl⟩) (w1 := []) (w2 := []) (w' := wX8 cy a0 a1 a2 a3 a4 a5 a6 st gr hi gh rc tx tl rk tb tk at_ ltr on_ tw th nu) (List.append_nil _) (List.append_nil _) hP hK hD hN hS hA (q0 := 0) rfl rfl rfl rfl hl rfl (Nat.le_of_ble_eq_true rfl) dX8_heldOn_34 ⟨Nat.zero_le _, Nat.zero_le _⟩ (fun H locs hP hD hS => ?_)
          refine lv_icmp_gt (tgt := 50) hx hb dX8_heldOn_37 (by decide) (fun c_26 => ?_) (fun c_26 => ?_)
          · have hf := x_t c_26 hf
            refine lv_iconst (v := 0) hx hb dX8_heldOn_50 (by decide) ?_
            refine lv_iadd hx hb dX8_heldOn_51 ?_
            obtain ⟨x3_27, ex3_27, hf⟩ := lt_el hf
            refine x_topi ex3_27 ?_
            refine lv_istore_n (lv' := [(3, .int x3_27), (0, .ref a0), (1, .int p1), (2, .int p2), (4, .int z4_16)]) hx hb dX8_heldOn_52 rfl hl (by decide) rfl (fun ls hl => ?_)
            refine lv_iinc (v := (z4_16 + 1)) (lv' := [(4, .int (z4_16 + 1)), (3, .int x3_27), (0, .ref a0), (1, .int p1), (2, .int p2)]) hx hb dX8_heldOn_53 hl (k := 4) rfl rfl (by decide) rfl (fun ls hl => ?_)
            refine lv_goto (tgt := 5) hx hb dX8_heldOn_56 (by decide) ?_
            exact ih x3_27 (z4_16 + 1) _ _ _ _ hf hP hD hS (lv_sub hl [2, 3, 4, 1, 0] rfl) hr_5 kx_5
          · have hf := x_f c_26 hf
            refine lv_aload_n hx hb dX8_heldOn_40 rfl (lv_at hl 0 rfl) ?_
            refine lv_iload hx hb dX8_heldOn_41 (lv_at hl 4 rfl) ?_
            refine lv_iconst (v := 2) hx hb dX8_heldOn_43 (by decide) ?_
            obtain ⟨r_28, h_29, hf⟩ := bd1_el hf
            refine x_callVi (As := [.int z4_16, .int 2]) (rest := [.int z3_15]) ⟨hx, hb, hml, hown, hts⟩ (mX8_holdPart l D cy a0 a1 a2 a3 a4 a5 a6 st gr hi gh rc tx tl rk tb tk at_ ltr on_ tw th nu z4_16 2 r_28 h_29) (cwV 2 hts (gcV_X8_holdPart hbg wm_15_20) rfl rfl rfl kdX8_holdPart ⟨Nat.le_of_ble_eq_true rfl, Nat.le_of_ble_eq_true rfl⟩) (w1 := []) (w2 := []) (w' := wX8 cy a0 a1 a2 a3 a4 a5 a6 st gr hi gh rc tx tl rk tb tk at_ ltr on_ tw th nu) (List.append_nil _) (List.append_nil _) hP hK hD hN hS hA (q0 := 0) rfl rfl rfl rfl hl rfl (Nat.le_of_ble_eq_true rfl) dX8_heldOn_44 ⟨Nat.zero_le _, Nat.zero_le _⟩ (fun H locs hP hD hS => ?_)
            refine lv_goto (tgt := 51) hx hb dX8_heldOn_47 (by decide) ?_
            refine lv_iadd hx hb dX8_heldOn_51 ?_
            obtain ⟨x3_30, ex3_30, hf⟩ := lt_el hf
            refine x_topi ex3_30 ?_
            refine lv_istore_n (lv' := [(3, .int x3_30), (0, .ref a0), (1, .int p1), (2, .int p2), (4, .int z4_16)]) hx hb dX8_heldOn_52 rfl hl (by decide) rfl (fun ls hl => ?_)
            refine lv_iinc (v := (z4_16 + 1)) (lv' := [(4, .int (z4_16 + 1)), (3, .int x3_30), (0, .ref a0), (1, .int p1), (2, .int p2)]) hx hb dX8_heldOn_53 hl (k := 4) rfl rfl (by decide) rfl (fun ls hl => ?_)
            refine lv_goto (tgt := 5) hx hb dX8_heldOn_56 (by decide) ?_
            exact ih x3_30 (z4_16 + 1) _ _ _ _ hf hP hD hS (lv_sub hl [2, 3, 4, 1, 0] rfl) hr_5 kx_5
  obtain ⟨x3_14, h1_5, hf⟩ := bd1_el hf
  refine hL_5 2147483648 0 0 _ _ _ _ h1_5 hP hD hS (lv_sub hl [2, 3, 4, 1, 0] rfl) trivial (fun x3_149 ho H locs ls hP hD hS hl => ?_)
  cases ho
  refine lv_iload_n hx hb dX8_heldOn_59 rfl (lv_at hl 0 rfl) ?_
  have hf := Option.some.inj hf
  cases hf
  exact x_iret hx hb hr hlocks hK hP hD hS dX8_heldOn_60
theorem kdX8_held : yX8_held.cls = RX8 ∧ yX8_held.cls ≠ "java/lang/invoke/MethodHandle" ∧ yX8_held.cls ≠ "java/lang/invoke/VarHandle" ∧ (parseMethodDescriptor yX8_held.desc).map (fun d => d.parameters.length) = some 1 := by decide +kernel
def rmX8_held : Room := { frames := 2, cells := 0, slots := 0, locals := 46 }
set_option maxHeartbeats 4000000 in
set_option maxRecDepth 100000 in
theorem mX8_held (l : Launch) (D : va_G) (cy : Nat → ClassId) (a0 a1 a2 a3 a4 a5 a6 : Nat) (st : Nat → Int32) (gr : Nat → Int64) (hi : Nat → Int32) (gh : Nat → Int64) (rc : Int32) (tx : Nat → Int32) (tl : Int32) (rk : Nat → Int32) (tb : Int32) (tk : Int64) (at_ : Int32) (ltr : Int32) (on_ : Int32) (tw : Int32) (th : Int32) (nu : Int32) (p1 : Int32) (r : Int32) (hf : fX8_held st p1 = some r) : xMi l D cy yX8_held aX8_held rmX8_held ([.ref a0, .int p1] : List Value) (wX8 cy a0 a1 a2 a3 a4 a5 a6 st gr hi gh rc tx tl rk tb tk at_ ltr on_ tw th nu) (wX8 cy a0 a1 a2 a3 a4 a5 a6 st gr hi gh rc tx tl rk tb tk at_ ltr on_ tw th nu) r := by
  intro hz
  refine x_start (Qc := xQi D cy _ r) (cc := cX8_held) (maxL := 2) (ret := (some .int)) (by decide) rfl (Nat.le_of_ble_eq_true rfl) (lv := [(0, .ref a0), (1, .int p1)]) rfl ?_
  intro p e s m below meth c ls A hx hb hr hml hown hts hlocks hK hP hD hS hA hN hl
  have hown : s.vm.findClass RX8 = some m.cls := hown
  have hbg : ∀ w ∈ wsL_law, w ∈ aX8_held := fun w h => List.mem_cons_of_mem _ h
  have wd0 : (Cond.fieldLink RX8 7 "ClientMoneyBookModel" "state" "[I").before ([.ref a0, .int p1] : List Value).toArray s = true := hts _ (List.mem_cons_of_mem _ wm_4_9)
  have iX8 : ∀ w ∈ u_ws RX8 TX8 16, w ∈ aX8_held := fun w h => List.mem_cons_of_mem _ (inlX8 w h)
  unfold fX8_held at hf
  refine lv_aload_n hx hb dX8_held_0 rfl (lv_at hl 0 rfl) ?_
  refine lv_aload_n hx hb dX8_held_1 rfl (lv_at hl 0 rfl) ?_
  refine lv_iload_n hx hb dX8_held_2 rfl (lv_at hl 1 rfl) ?_
  refine lv_iconst (v := 0) hx hb dX8_held_3 (by decide) ?_
  obtain ⟨r_1, h_2, hf⟩ := bd1_el hf
  refine x_callVi (As := [.int p1, .int 0]) (rest := [.ref a0]) ⟨hx, hb, hml, hown, hts⟩ (mX8_part l D cy a0 a1 a2 a3 a4 a5 a6 st gr hi gh rc tx tl rk tb tk at_ ltr on_ tw th nu p1 0 r_1 h_2) (cwV 2 hts (gcV_X8_part hbg wm_9_9) rfl rfl rfl kdX8_part ⟨Nat.le_of_ble_eq_true rfl, Nat.le_of_ble_eq_true rfl⟩) (w1 := []) (w2 := []) (w' := wX8 cy a0 a1 a2 a3 a4 a5 a6 st gr hi gh rc tx tl rk tb tk at_ ltr on_ tw th nu) (List.append_nil _) (List.append_nil _) hP hK hD hN hS hA (q0 := 0) rfl rfl rfl rfl hl rfl (Nat.le_of_ble_eq_true rfl) dX8_held_4 ⟨Nat.zero_le _, Nat.zero_le _⟩ (fun H locs hP hD hS => ?_)
  refine lv_aload_n hx hb dX8_held_7 rfl (lv_at hl 0 rfl) ?_
  refine x_get hx hb (C := RX8) (T := TX8) (N := 16) (ci := 8) hts iX8 hown hK hP 0 rfl rfl 0 (by decide) wd0 rfl (.ref a1) rfl dX8_held_8 ?_
  refine lv_iconst (v := 0) hx hb dX8_held_11 (by decide) ?_
  obtain ⟨hi_3, hf⟩ := ckI_el hf
  refine va_iald hx hb hK hP 1 1 rfl rfl hi_3 dX8_held_12 ?_
  obtain ⟨r_4, h_5, hf⟩ := bd1_el hf
  refine x_callVi (As := [.int r_1, .int (st (0 : Int32).toNatClampNeg)]) (rest := []) ⟨hx, hb, hml, hown, hts⟩ (mX8_heldOn l D cy a0 a1 a2 a3 a4 a5 a6 st gr hi gh rc tx tl rk tb tk at_ ltr on_ tw th nu r_1 (st (0 : Int32).toNatClampNeg) r_4 h_5) (cwV 2 hts (gcV_X8_heldOn hbg wm_15_16) rfl rfl rfl kdX8_heldOn ⟨Nat.le_of_ble_eq_true rfl, Nat.le_of_ble_eq_true rfl⟩) (w1 := []) (w2 := []) (w' := wX8 cy a0 a1 a2 a3 a4 a5 a6 st gr hi gh rc tx tl rk tb tk at_ ltr on_ tw th nu) (List.append_nil _) (List.append_nil _) hP hK hD hN hS hA (q0 := 0) rfl rfl rfl rfl hl rfl (Nat.le_of_ble_eq_true rfl) dX8_held_13 ⟨Nat.zero_le _, Nat.zero_le _⟩ (fun H locs hP hD hS => ?_)
  have hf := Option.some.inj hf
  cases hf
  exact x_iret hx hb hr hlocks hK hP hD hS dX8_held_16
theorem kdX8_free : yX8_free.cls = RX8 ∧ yX8_free.cls ≠ "java/lang/invoke/MethodHandle" ∧ yX8_free.cls ≠ "java/lang/invoke/VarHandle" ∧ (parseMethodDescriptor yX8_free.desc).map (fun d => d.parameters.length) = some 1 := by decide +kernel
def rmX8_free : Room := { frames := 3, cells := 0, slots := 0, locals := 67 }
set_option maxHeartbeats 4000000 in
set_option maxRecDepth 100000 in
theorem mX8_free (l : Launch) (D : va_G) (cy : Nat → ClassId) (a0 a1 a2 a3 a4 a5 a6 : Nat) (st : Nat → Int32) (gr : Nat → Int64) (hi : Nat → Int32) (gh : Nat → Int64) (rc : Int32) (tx : Nat → Int32) (tl : Int32) (rk : Nat → Int32) (tb : Int32) (tk : Int64) (at_ : Int32) (ltr : Int32) (on_ : Int32) (tw : Int32) (th : Int32) (nu : Int32) (p1 : Int32) (r : Int32) (hf : fX8_free st p1 = some r) : xMi l D cy yX8_free aX8_free rmX8_free ([.ref a0, .int p1] : List Value) (wX8 cy a0 a1 a2 a3 a4 a5 a6 st gr hi gh rc tx tl rk tb tk at_ ltr on_ tw th nu) (wX8 cy a0 a1 a2 a3 a4 a5 a6 st gr hi gh rc tx tl rk tb tk at_ ltr on_ tw th nu) r := by
  intro hz
  refine x_start (Qc := xQi D cy _ r) (cc := cX8_free) (maxL := 2) (ret := (some .int)) (by decide) rfl (Nat.le_of_ble_eq_true rfl) (lv := [(0, .ref a0), (1, .int p1)]) rfl ?_
  intro p e s m below meth c ls A hx hb hr hml hown hts hlocks hK hP hD hS hA hN hl
  have hown : s.vm.findClass RX8 = some m.cls := hown
  have hbg : ∀ w ∈ wsL_law, w ∈ aX8_free := fun w h => List.mem_cons_of_mem _ h
  unfold fX8_free at hf
  refine lv_aload_n hx hb dX8_free_0 rfl (lv_at hl 0 rfl) ?_
  refine lv_iload_n hx hb dX8_free_1 rfl (lv_at hl 1 rfl) ?_
  refine lv_iconst (v := 1) hx hb dX8_free_2 (by decide) ?_
  obtain ⟨r_1, h_2, hf⟩ := bd1_el hf
  refine x_callVi (As := [.int p1, .int 1]) (rest := []) ⟨hx, hb, hml, hown, hts⟩ (mX8_part l D cy a0 a1 a2 a3 a4 a5 a6 st gr hi gh rc tx tl rk tb tk at_ ltr on_ tw th nu p1 1 r_1 h_2) (cwV 2 hts (gcV_X8_part hbg wm_9_9) rfl rfl rfl kdX8_part ⟨Nat.le_of_ble_eq_true rfl, Nat.le_of_ble_eq_true rfl⟩) (w1 := []) (w2 := []) (w' := wX8 cy a0 a1 a2 a3 a4 a5 a6 st gr hi gh rc tx tl rk tb tk at_ ltr on_ tw th nu) (List.append_nil _) (List.append_nil _) hP hK hD hN hS hA (q0 := 0) rfl rfl rfl rfl hl rfl (Nat.le_of_ble_eq_true rfl) dX8_free_3 ⟨Nat.zero_le _, Nat.zero_le _⟩ (fun H locs hP hD hS => ?_)
  refine lv_aload_n hx hb dX8_free_6 rfl (lv_at hl 0 rfl) ?_
  refine lv_iload_n hx hb dX8_free_7 rfl (lv_at hl 1 rfl) ?_
  obtain ⟨r_3, h_4, hf⟩ := bd1_el hf
  refine x_callVi (As := [.int p1]) (rest := [.int r_1]) ⟨hx, hb, hml, hown, hts⟩ (mX8_held l D cy a0 a1 a2 a3 a4 a5 a6 st gr hi gh rc tx tl rk tb tk at_ ltr on_ tw th nu p1 r_3 h_4) (cwV 1 hts (gcV_X8_held hbg wm_15_12) rfl rfl rfl kdX8_held ⟨Nat.le_of_ble_eq_true rfl, Nat.le_of_ble_eq_true rfl⟩) (w1 := []) (w2 := []) (w' := wX8 cy a0 a1 a2 a3 a4 a5 a6 st gr hi gh rc tx tl rk tb tk at_ ltr on_ tw th nu) (List.append_nil _) (List.append_nil _) hP hK hD hN hS hA (q0 := 0) rfl rfl rfl rfl hl rfl (Nat.le_of_ble_eq_true rfl) dX8_free_8 ⟨Nat.zero_le _, Nat.zero_le _⟩ (fun H locs hP hD hS => ?_)
  refine lv_isub hx hb dX8_free_11 ?_
  have hf := Option.some.inj hf
  cases hf
  exact x_iret hx hb hr hlocks hK hP hD hS dX8_free_12
theorem kdX8_findHold : yX8_findHold.cls = RX8 ∧ yX8_findHold.cls ≠ "java/lang/invoke/MethodHandle" ∧ yX8_findHold.cls ≠ "java/lang/invoke/VarHandle" ∧ (parseMethodDescriptor yX8_findHold.desc).map (fun d => d.parameters.length) = some 1 := by decide +kernel
def rmX8_findHold : Room := { frames := 1, cells := 0, slots := 0, locals := 22 }
set_option maxHeartbeats 4000000 in
set_option maxRecDepth 100000 in
theorem mX8_findHold (l : Launch) (D : va_G) (cy : Nat → ClassId) (a0 a1 a2 a3 a4 a5 a6 : Nat) (st : Nat → Int32) (gr : Nat → Int64) (hi : Nat → Int32) (gh : Nat → Int64) (rc : Int32) (tx : Nat → Int32) (tl : Int32) (rk : Nat → Int32) (tb : Int32) (tk : Int64) (at_ : Int32) (ltr : Int32) (on_ : Int32) (tw : Int32) (th : Int32) (nu : Int32) (p1 : Int32) (r : Int32) (hf : fX8_findHold st p1 = some r) : xMi l D cy yX8_findHold aX8_findHold rmX8_findHold ([.ref a0, .int p1] : List Value) (wX8 cy a0 a1 a2 a3 a4 a5 a6 st gr hi gh rc tx tl rk tb tk at_ ltr on_ tw th nu) (wX8 cy a0 a1 a2 a3 a4 a5 a6 st gr hi gh rc tx tl rk tb tk at_ ltr on_ tw th nu) r := by
  intro hz
  refine x_start (Qc := xQi D cy _ r) (cc := cX8_findHold) (maxL := 4) (ret := (some .int)) (by decide) rfl (Nat.le_of_ble_eq_true rfl) (lv := [(0, .ref a0), (1, .int p1)]) rfl ?_
  intro p e s m below meth c ls A hx hb hr hml hown hts hlocks hK hP hD hS hA hN hl
  have hown : s.vm.findClass RX8 = some m.cls := hown
  have hbg : ∀ w ∈ wsL_law, w ∈ aX8_findHold := fun w h => List.mem_cons_of_mem _ h
  have wd0 : (Cond.fieldLink RX8 7 "ClientMoneyBookModel" "state" "[I").before ([.ref a0, .int p1] : List Value).toArray s = true := hts _ (List.mem_cons_of_mem _ wm_4_9)
  have iX8 : ∀ w ∈ u_ws RX8 TX8 16, w ∈ aX8_findHold := fun w h => List.mem_cons_of_mem _ (inlX8 w h)
  unfold fX8_findHold at hf
  refine lv_bipush (v := (-6)) hx hb dX8_findHold_0 (by decide) ?_
  refine lv_istore_n (lv' := [(2, .int (-6)), (0, .ref a0), (1, .int p1)]) hx hb dX8_findHold_2 rfl hl (by decide) rfl (fun ls hl => ?_)
  refine lv_iconst (v := 0) hx hb dX8_findHold_3 (by decide) ?_
  refine lv_istore_n (lv' := [(3, .int 0), (2, .int (-6)), (0, .ref a0), (1, .int p1)]) hx hb dX8_findHold_4 rfl hl (by decide) rfl (fun ls hl => ?_)
  have hL_5 : ∀ (n : Nat) (z2_7 : Int32) (z3_8 : Int32) (o : Int32) (H : Heap) (locs : List Loc) (ls : Array Slot), fX8_findHold_L5 st p1 n z2_7 z3_8 = some o → va_P D vwCl (wX8 cy a0 a1 a2 a3 a4 a5 a6 st gr hi gh rc tx tl rk tb tk at_ ltr on_ tw th nu) H → va_D A (wX8 cy a0 a1 a2 a3 a4 a5 a6 st gr hi gh rc tx tl rk tb tk at_ ltr on_ tw th nu) → va_S A s.heap H locs → lv_has ls 4 [(0, .ref a0), (1, .int p1), (2, .int z2_7), (3, .int z3_8)] → True → ((∀ (x2_9 : Int32) , o = x2_9 → ∀ (H : Heap) (locs : List Loc) (ls : Array Slot), va_P D vwCl (wX8 cy a0 a1 a2 a3 a4 a5 a6 st gr hi gh rc tx tl rk tb tk at_ ltr on_ tw th nu) H → va_D A (wX8 cy a0 a1 a2 a3 a4 a5 a6 st gr hi gh rc tx tl rk tb tk at_ ltr on_ tw th nu) → va_S A s.heap H locs → lv_has ls 4 [(2, .int x2_9)] → W p l e rmX8_findHold s m ([.ref a0, .int p1] : List Value).toArray below meth c H locs 0 0 (MQ below (xQi D cy (wX8 cy a0 a1 a2 a3 a4 a5 a6 st gr hi gh rc tx tl rk tb tk at_ ltr on_ tw th nu) r A) ([.ref a0, .int p1] : List Value).toArray s 0 0 A) (F0 m 38 ls []))) → W p l e rmX8_findHold s m ([.ref a0, .int p1] : List Value).toArray below meth c H locs 0 0 (MQ below (xQi D cy (wX8 cy a0 a1 a2 a3 a4 a5 a6 st gr hi gh rc tx tl rk tb tk at_ ltr on_ tw th nu) r A) ([.ref a0, .int p1] : List Value).toArray s 0 0 A) (F0 m 5 ls []) := by
    intro n
    induction n with
    | zero =>
      intro z2_7 z3_8 o_5 H locs ls hf
      rw [fX8_findHold_L5] at hf
      cases hf
    | succ n ih =>
      intro z2_7 z3_8 o_5 H locs ls hf hP hD hS hl hr_5 kx_5
      rw [fX8_findHold_L5] at hf
      refine lv_iload_n hx hb dX8_findHold_5 rfl (lv_at hl 3 rfl) ?_
      refine lv_aload_n hx hb dX8_findHold_6 rfl (lv_at hl 0 rfl) ?_
      refine x_get hx hb (C := RX8) (T := TX8) (N := 16) (ci := 8) hts iX8 hown hK hP 0 rfl rfl 0 (by decide) wd0 rfl (.ref a1) rfl dX8_findHold_7 ?_
      refine lv_bipush (v := 6) hx hb dX8_findHold_10 (by decide) ?_
      obtain ⟨hi_10, hf⟩ := ckI_el hf
      refine va_iald hx hb hK hP 1 1 rfl rfl hi_10 dX8_findHold_12 ?_
      refine lv_icmp_ge (tgt := 38) hx hb dX8_findHold_13 (by decide) (fun c_11 => ?_) (fun c_11 => ?_)
      · have hf := x_t c_11 hf
        exact kx_5 z2_7 (Option.some.inj hf).symm _ _ _ hP hD hS (lv_sub hl [2] rfl)
      · have hf := x_f c_11 hf
        refine lv_aload_n hx hb dX8_findHold_16 rfl (lv_at hl 0 rfl) ?_
        refine lv_iload_n hx hb dX8_findHold_17 rfl (lv_at hl 3 rfl) ?_
        refine lv_iconst (v := 0) hx hb dX8_findHold_18 (by decide) ?_
        obtain ⟨r_12, h_13, hf⟩ := bd1_el hf
        refine x_callVi (As := [.int z3_8, .int 0]) (rest := []) ⟨hx, hb, hml, hown, hts⟩ (mX8_holdPart l D cy a0 a1 a2 a3 a4 a5 a6 st gr hi gh rc tx tl rk tb tk at_ ltr on_ tw th nu z3_8 0 r_12 h_13) (cwV 2 hts (gcV_X8_holdPart hbg wm_15_20) rfl rfl rfl kdX8_holdPart ⟨Nat.le_of_ble_eq_true rfl, Nat.le_of_ble_eq_true rfl⟩) (w1 := []) (w2 := []) (w' := wX8 cy a0 a1 a2 a3 a4 a5 a6 st gr hi gh rc tx tl rk tb tk at_ ltr on_ tw th nu) (List.append_nil _) (List.append_nil _) hP hK hD hN hS hA (q0 := 0) rfl rfl rfl rfl hl rfl (Nat.le_of_ble_eq_true rfl) dX8_findHold_19 ⟨Nat.zero_le _, Nat.zero_le _⟩ (fun H locs hP hD hS => ?_)
        refine lv_iload_n hx hb dX8_findHold_22 rfl (lv_at hl 1 rfl) ?_
        refine lv_icmp_ne (tgt := 30) hx hb dX8_findHold_23 (by decide) (fun c_14 => ?_) (fun c_14 => ?_)
        · have hf := x_f c_14 hf
          refine lv_iload_n hx hb dX8_findHold_30 rfl (lv_at hl 2 rfl) ?_
          refine lv_istore_n (lv' := [(2, .int z2_7), (0, .ref a0), (1, .int p1), (3, .int z3_8)]) hx hb dX8_findHold_31 rfl hl (by decide) rfl (fun ls hl => ?_)
          refine lv_iinc (v := (z3_8 + 1)) (lv' := [(3, .int (z3_8 + 1)), (2, .int z2_7), (0, .ref a0), (1, .int p1)]) hx hb dX8_findHold_32 hl (k := 3) rfl rfl (by decide) rfl (fun ls hl => ?_)
          refine lv_goto (tgt := 5) hx hb dX8_findHold_35 (by decide) ?_
          exact ih z2_7 (z3_8 + 1) _ _ _ _ hf hP hD hS (lv_sub hl [2, 3, 1, 0] rfl) hr_5 kx_5
        · have hf := x_t c_14 hf
          refine lv_iload_n hx hb dX8_findHold_26 rfl (lv_at hl 3 rfl) ?_
          refine lv_goto (tgt := 31) hx hb dX8_findHold_27 (by decide) ?_
          refine lv_istore_n (lv' := [(2, .int z3_8), (0, .ref a0), (1, .int p1), (3, .int z3_8)]) hx hb dX8_findHold_31 rfl hl (by decide) rfl (fun ls hl => ?_)
          refine lv_iinc (v := (z3_8 + 1)) (lv' := [(3, .int (z3_8 + 1)), (2, .int z3_8), (0, .ref a0), (1, .int p1)]) hx hb dX8_findHold_32 hl (k := 3) rfl rfl (by decide) rfl (fun ls hl => ?_)
          refine lv_goto (tgt := 5) hx hb dX8_findHold_35 (by decide) ?_
          exact ih z3_8 (z3_8 + 1) _ _ _ _ hf hP hD hS (lv_sub hl [2, 3, 1, 0] rfl) hr_5 kx_5
  obtain ⟨x2_6, h1_5, hf⟩ := bd1_el hf
  refine hL_5 2147483648 (-6) 0 _ _ _ _ h1_5 hP hD hS (lv_sub hl [2, 3, 1, 0] rfl) trivial (fun x2_69 ho H locs ls hP hD hS hl => ?_)
  cases ho
  refine lv_iload_n hx hb dX8_findHold_38 rfl (lv_at hl 0 rfl) ?_
  have hf := Option.some.inj hf
  cases hf
  exact x_iret hx hb hr hlocks hK hP hD hS dX8_findHold_39
theorem kdX8_findBill : yX8_findBill.cls = RX8 ∧ yX8_findBill.cls ≠ "java/lang/invoke/MethodHandle" ∧ yX8_findBill.cls ≠ "java/lang/invoke/VarHandle" ∧ (parseMethodDescriptor yX8_findBill.desc).map (fun d => d.parameters.length) = some 1 := by decide +kernel
def rmX8_findBill : Room := { frames := 1, cells := 0, slots := 0, locals := 22 }
set_option maxHeartbeats 4000000 in
set_option maxRecDepth 100000 in
theorem mX8_findBill (l : Launch) (D : va_G) (cy : Nat → ClassId) (a0 a1 a2 a3 a4 a5 a6 : Nat) (st : Nat → Int32) (gr : Nat → Int64) (hi : Nat → Int32) (gh : Nat → Int64) (rc : Int32) (tx : Nat → Int32) (tl : Int32) (rk : Nat → Int32) (tb : Int32) (tk : Int64) (at_ : Int32) (ltr : Int32) (on_ : Int32) (tw : Int32) (th : Int32) (nu : Int32) (p1 : Int32) (r : Int32) (hf : fX8_findBill st p1 = some r) : xMi l D cy yX8_findBill aX8_findBill rmX8_findBill ([.ref a0, .int p1] : List Value) (wX8 cy a0 a1 a2 a3 a4 a5 a6 st gr hi gh rc tx tl rk tb tk at_ ltr on_ tw th nu) (wX8 cy a0 a1 a2 a3 a4 a5 a6 st gr hi gh rc tx tl rk tb tk at_ ltr on_ tw th nu) r := by
  intro hz
  refine x_start (Qc := xQi D cy _ r) (cc := cX8_findBill) (maxL := 4) (ret := (some .int)) (by decide) rfl (Nat.le_of_ble_eq_true rfl) (lv := [(0, .ref a0), (1, .int p1)]) rfl ?_
  intro p e s m below meth c ls A hx hb hr hml hown hts hlocks hK hP hD hS hA hN hl
  have hown : s.vm.findClass RX8 = some m.cls := hown
  have hbg : ∀ w ∈ wsL_law, w ∈ aX8_findBill := fun w h => List.mem_cons_of_mem _ h
  have wd0 : (Cond.fieldLink RX8 7 "ClientMoneyBookModel" "state" "[I").before ([.ref a0, .int p1] : List Value).toArray s = true := hts _ (List.mem_cons_of_mem _ wm_4_9)
  have iX8 : ∀ w ∈ u_ws RX8 TX8 16, w ∈ aX8_findBill := fun w h => List.mem_cons_of_mem _ (inlX8 w h)
  unfold fX8_findBill at hf
  refine lv_bipush (v := (-6)) hx hb dX8_findBill_0 (by decide) ?_
  refine lv_istore_n (lv' := [(2, .int (-6)), (0, .ref a0), (1, .int p1)]) hx hb dX8_findBill_2 rfl hl (by decide) rfl (fun ls hl => ?_)
  refine lv_iconst (v := 0) hx hb dX8_findBill_3 (by decide) ?_
  refine lv_istore_n (lv' := [(3, .int 0), (2, .int (-6)), (0, .ref a0), (1, .int p1)]) hx hb dX8_findBill_4 rfl hl (by decide) rfl (fun ls hl => ?_)
  have hL_5 : ∀ (n : Nat) (z2_7 : Int32) (z3_8 : Int32) (o : Int32) (H : Heap) (locs : List Loc) (ls : Array Slot), fX8_findBill_L5 st p1 n z2_7 z3_8 = some o → va_P D vwCl (wX8 cy a0 a1 a2 a3 a4 a5 a6 st gr hi gh rc tx tl rk tb tk at_ ltr on_ tw th nu) H → va_D A (wX8 cy a0 a1 a2 a3 a4 a5 a6 st gr hi gh rc tx tl rk tb tk at_ ltr on_ tw th nu) → va_S A s.heap H locs → lv_has ls 4 [(0, .ref a0), (1, .int p1), (2, .int z2_7), (3, .int z3_8)] → True → ((∀ (x2_9 : Int32) , o = x2_9 → ∀ (H : Heap) (locs : List Loc) (ls : Array Slot), va_P D vwCl (wX8 cy a0 a1 a2 a3 a4 a5 a6 st gr hi gh rc tx tl rk tb tk at_ ltr on_ tw th nu) H → va_D A (wX8 cy a0 a1 a2 a3 a4 a5 a6 st gr hi gh rc tx tl rk tb tk at_ ltr on_ tw th nu) → va_S A s.heap H locs → lv_has ls 4 [(2, .int x2_9)] → W p l e rmX8_findBill s m ([.ref a0, .int p1] : List Value).toArray below meth c H locs 0 0 (MQ below (xQi D cy (wX8 cy a0 a1 a2 a3 a4 a5 a6 st gr hi gh rc tx tl rk tb tk at_ ltr on_ tw th nu) r A) ([.ref a0, .int p1] : List Value).toArray s 0 0 A) (F0 m 38 ls []))) → W p l e rmX8_findBill s m ([.ref a0, .int p1] : List Value).toArray below meth c H locs 0 0 (MQ below (xQi D cy (wX8 cy a0 a1 a2 a3 a4 a5 a6 st gr hi gh rc tx tl rk tb tk at_ ltr on_ tw th nu) r A) ([.ref a0, .int p1] : List Value).toArray s 0 0 A) (F0 m 5 ls []) := by
    intro n
    induction n with
    | zero =>
      intro z2_7 z3_8 o_5 H locs ls hf
      rw [fX8_findBill_L5] at hf
      cases hf
    | succ n ih =>
      intro z2_7 z3_8 o_5 H locs ls hf hP hD hS hl hr_5 kx_5
      rw [fX8_findBill_L5] at hf
      refine lv_iload_n hx hb dX8_findBill_5 rfl (lv_at hl 3 rfl) ?_
      refine lv_aload_n hx hb dX8_findBill_6 rfl (lv_at hl 0 rfl) ?_
      refine x_get hx hb (C := RX8) (T := TX8) (N := 16) (ci := 8) hts iX8 hown hK hP 0 rfl rfl 0 (by decide) wd0 rfl (.ref a1) rfl dX8_findBill_7 ?_
      refine lv_bipush (v := 7) hx hb dX8_findBill_10 (by decide) ?_
      obtain ⟨hi_10, hf⟩ := ckI_el hf
      refine va_iald hx hb hK hP 1 1 rfl rfl hi_10 dX8_findBill_12 ?_
      refine lv_icmp_ge (tgt := 38) hx hb dX8_findBill_13 (by decide) (fun c_11 => ?_) (fun c_11 => ?_)
      · have hf := x_t c_11 hf
        exact kx_5 z2_7 (Option.some.inj hf).symm _ _ _ hP hD hS (lv_sub hl [2] rfl)
      · have hf := x_f c_11 hf
        refine lv_aload_n hx hb dX8_findBill_16 rfl (lv_at hl 0 rfl) ?_
        refine lv_iload_n hx hb dX8_findBill_17 rfl (lv_at hl 3 rfl) ?_
        refine lv_iconst (v := 0) hx hb dX8_findBill_18 (by decide) ?_
        obtain ⟨r_12, h_13, hf⟩ := bd1_el hf
        refine x_callVi (As := [.int z3_8, .int 0]) (rest := []) ⟨hx, hb, hml, hown, hts⟩ (mX8_billPart l D cy a0 a1 a2 a3 a4 a5 a6 st gr hi gh rc tx tl rk tb tk at_ ltr on_ tw th nu z3_8 0 r_12 h_13) (cwV 2 hts (gcV_X8_billPart hbg wm_11_1) rfl rfl rfl kdX8_billPart ⟨Nat.le_of_ble_eq_true rfl, Nat.le_of_ble_eq_true rfl⟩) (w1 := []) (w2 := []) (w' := wX8 cy a0 a1 a2 a3 a4 a5 a6 st gr hi gh rc tx tl rk tb tk at_ ltr on_ tw th nu) (List.append_nil _) (List.append_nil _) hP hK hD hN hS hA (q0 := 0) rfl rfl rfl rfl hl rfl (Nat.le_of_ble_eq_true rfl) dX8_findBill_19 ⟨Nat.zero_le _, Nat.zero_le _⟩ (fun H locs hP hD hS => ?_)
        refine lv_iload_n hx hb dX8_findBill_22 rfl (lv_at hl 1 rfl) ?_
        refine lv_icmp_ne (tgt := 30) hx hb dX8_findBill_23 (by decide) (fun c_14 => ?_) (fun c_14 => ?_)
        · have hf := x_f c_14 hf
          refine lv_iload_n hx hb dX8_findBill_30 rfl (lv_at hl 2 rfl) ?_
          refine lv_istore_n (lv' := [(2, .int z2_7), (0, .ref a0), (1, .int p1), (3, .int z3_8)]) hx hb dX8_findBill_31 rfl hl (by decide) rfl (fun ls hl => ?_)
          refine lv_iinc (v := (z3_8 + 1)) (lv' := [(3, .int (z3_8 + 1)), (2, .int z2_7), (0, .ref a0), (1, .int p1)]) hx hb dX8_findBill_32 hl (k := 3) rfl rfl (by decide) rfl (fun ls hl => ?_)
          refine lv_goto (tgt := 5) hx hb dX8_findBill_35 (by decide) ?_
          exact ih z2_7 (z3_8 + 1) _ _ _ _ hf hP hD hS (lv_sub hl [2, 3, 1, 0] rfl) hr_5 kx_5
        · have hf := x_t c_14 hf
          refine lv_iload_n hx hb dX8_findBill_26 rfl (lv_at hl 3 rfl) ?_
          refine lv_goto (tgt := 31) hx hb dX8_findBill_27 (by decide) ?_
          refine lv_istore_n (lv' := [(2, .int z3_8), (0, .ref a0), (1, .int p1), (3, .int z3_8)]) hx hb dX8_findBill_31 rfl hl (by decide) rfl (fun ls hl => ?_)
          refine lv_iinc (v := (z3_8 + 1)) (lv' := [(3, .int (z3_8 + 1)), (2, .int z3_8), (0, .ref a0), (1, .int p1)]) hx hb dX8_findBill_32 hl (k := 3) rfl rfl (by decide) rfl (fun ls hl => ?_)
          refine lv_goto (tgt := 5) hx hb dX8_findBill_35 (by decide) ?_
          exact ih z3_8 (z3_8 + 1) _ _ _ _ hf hP hD hS (lv_sub hl [2, 3, 1, 0] rfl) hr_5 kx_5
  obtain ⟨x2_6, h1_5, hf⟩ := bd1_el hf
  refine hL_5 2147483648 (-6) 0 _ _ _ _ h1_5 hP hD hS (lv_sub hl [2, 3, 1, 0] rfl) trivial (fun x2_69 ho H locs ls hP hD hS hl => ?_)
  cases ho
  refine lv_iload_n hx hb dX8_findBill_38 rfl (lv_at hl 0 rfl) ?_
  have hf := Option.some.inj hf
  cases hf
  exact x_iret hx hb hr hlocks hK hP hD hS dX8_findBill_39
theorem kdX8_takesOut : yX8_takesOut.cls = RX8 ∧ yX8_takesOut.cls ≠ "java/lang/invoke/MethodHandle" ∧ yX8_takesOut.cls ≠ "java/lang/invoke/VarHandle" ∧ (parseMethodDescriptor yX8_takesOut.desc).map (fun d => d.parameters.length) = some 3 := by decide +kernel
def rmX8_takesOut : Room := { frames := 0, cells := 0, slots := 0, locals := 0 }
set_option maxHeartbeats 4000000 in
set_option maxRecDepth 100000 in
theorem mX8_takesOut (l : Launch) (D : va_G) (cy : Nat → ClassId) (a0 a1 a2 a3 a4 a5 a6 : Nat) (st : Nat → Int32) (gr : Nat → Int64) (hi : Nat → Int32) (gh : Nat → Int64) (rc : Int32) (tx : Nat → Int32) (tl : Int32) (rk : Nat → Int32) (tb : Int32) (tk : Int64) (at_ : Int32) (ltr : Int32) (on_ : Int32) (tw : Int32) (th : Int32) (nu : Int32) (p1 : Int32) (p2 : Int32) (p3 : Int32) (st' : Nat → Int32) (hf : fX8_takesOut st p1 p2 p3 = some st') : xMv l D cy yX8_takesOut aX8_takesOut rmX8_takesOut ([.ref a0, .int p1, .int p2, .int p3] : List Value) (wX8 cy a0 a1 a2 a3 a4 a5 a6 st gr hi gh rc tx tl rk tb tk at_ ltr on_ tw th nu) (wX8 cy a0 a1 a2 a3 a4 a5 a6 st' gr hi gh rc tx tl rk tb tk at_ ltr on_ tw th nu) := by
  intro hz
  refine x_start (Qc := xQv D cy _) (cc := cX8_takesOut) (maxL := 5) (ret := none) (by decide) rfl (Nat.le_of_ble_eq_true rfl) (lv := [(0, .ref a0), (1, .int p1), (2, .int p2), (3, .int p3)]) rfl ?_
  intro p e s m below meth c ls A hx hb hr hml hown hts hlocks hK hP hD hS hA hN hl
  have hown : s.vm.findClass RX8 = some m.cls := hown
  have hbg : ∀ w ∈ wsL_law, w ∈ aX8_takesOut := fun w h => List.mem_cons_of_mem _ h
  have wd0 : (Cond.fieldLink RX8 7 "ClientMoneyBookModel" "state" "[I").before ([.ref a0, .int p1, .int p2, .int p3] : List Value).toArray s = true := hts _ (List.mem_cons_of_mem _ wm_4_9)
  have iX8 : ∀ w ∈ u_ws RX8 TX8 16, w ∈ aX8_takesOut := fun w h => List.mem_cons_of_mem _ (inlX8 w h)
  unfold fX8_takesOut at hf
  refine lv_iload_n hx hb dX8_takesOut_0 rfl (lv_at hl 1 rfl) ?_
  refine lv_iconst (v := 4) hx hb dX8_takesOut_1 (by decide) ?_
  refine lv_iload_n hx hb dX8_takesOut_2 rfl (lv_at hl 2 rfl) ?_
  refine lv_imul hx hb dX8_takesOut_3 ?_
  refine lv_iadd hx hb dX8_takesOut_4 ?_
  obtain ⟨x4_1, ex4_1, hf⟩ := lt_el hf
  refine x_topi ex4_1 ?_
  refine lv_istore (lv' := [(4, .int x4_1), (0, .ref a0), (1, .int p1), (2, .int p2), (3, .int p3)]) hx hb dX8_takesOut_5 hl (by decide) rfl (fun ls hl => ?_)
  have hL_7 : ∀ (n : Nat) (st_18 : Nat → Int32) (z4_19 : Int32) (o : (Nat → Int32)) (H : Heap) (locs : List Loc) (ls : Array Slot), fX8_takesOut_L7 p1 p3 n st_18 z4_19 = some o → va_P D vwCl (wX8 cy a0 a1 a2 a3 a4 a5 a6 st_18 gr hi gh rc tx tl rk tb tk at_ ltr on_ tw th nu) H → va_D A (wX8 cy a0 a1 a2 a3 a4 a5 a6 st_18 gr hi gh rc tx tl rk tb tk at_ ltr on_ tw th nu) → va_S A s.heap H locs → lv_has ls 5 [(0, .ref a0), (1, .int p1), (3, .int p3), (4, .int z4_19)] → True → ((∀ (st_20 : Nat → Int32) , o = st_20 → ∀ (H : Heap) (locs : List Loc) (ls : Array Slot), va_P D vwCl (wX8 cy a0 a1 a2 a3 a4 a5 a6 st_20 gr hi gh rc tx tl rk tb tk at_ ltr on_ tw th nu) H → va_D A (wX8 cy a0 a1 a2 a3 a4 a5 a6 st_20 gr hi gh rc tx tl rk tb tk at_ ltr on_ tw th nu) → va_S A s.heap H locs → lv_has ls 5 [(0, .ref a0), (1, .int p1), (3, .int p3)] → W p l e rmX8_takesOut s m ([.ref a0, .int p1, .int p2, .int p3] : List Value).toArray below meth c H locs 0 0 (MQ below (xQv D cy (wX8 cy a0 a1 a2 a3 a4 a5 a6 st' gr hi gh rc tx tl rk tb tk at_ ltr on_ tw th nu) A) ([.ref a0, .int p1, .int p2, .int p3] : List Value).toArray s 0 0 A) (F0 m 41 ls []))) → W p l e rmX8_takesOut s m ([.ref a0, .int p1, .int p2, .int p3] : List Value).toArray below meth c H locs 0 0 (MQ below (xQv D cy (wX8 cy a0 a1 a2 a3 a4 a5 a6 st' gr hi gh rc tx tl rk tb tk at_ ltr on_ tw th nu) A) ([.ref a0, .int p1, .int p2, .int p3] : List Value).toArray s 0 0 A) (F0 m 7 ls []) := by
    intro n
    induction n with
    | zero =>
      intro st_18 z4_19 o_7 H locs ls hf
      rw [fX8_takesOut_L7] at hf
      cases hf
    | succ n ih =>
      intro st_18 z4_19 o_7 H locs ls hf hP hD hS hl hr_7 kx_7
      rw [fX8_takesOut_L7] at hf
      refine lv_iload hx hb dX8_takesOut_7 (lv_at hl 3 rfl) ?_
      refine lv_iload_n hx hb dX8_takesOut_9 rfl (lv_at hl 1 rfl) ?_
      refine lv_iconst (v := 4) hx hb dX8_takesOut_10 (by decide) ?_
      refine lv_iload_n hx hb dX8_takesOut_11 rfl (lv_at hl 2 rfl) ?_
      refine lv_iconst (v := 1) hx hb dX8_takesOut_12 (by decide) ?_
      refine lv_isub hx hb dX8_takesOut_13 ?_
      refine lv_imul hx hb dX8_takesOut_14 ?_
      refine lv_iadd hx hb dX8_takesOut_15 ?_
      refine lv_icmp_ge (tgt := 41) hx hb dX8_takesOut_16 (by decide) (fun c_21 => ?_) (fun c_21 => ?_)
      · have hf := x_t c_21 hf
        exact kx_7 st_18 (Option.some.inj hf).symm _ _ _ hP hD hS (lv_sub hl [0, 1, 2] rfl)
      · have hf := x_f c_21 hf
        refine lv_aload_n hx hb dX8_takesOut_19 rfl (lv_at hl 0 rfl) ?_
        refine x_get hx hb (C := RX8) (T := TX8) (N := 16) (ci := 8) hts iX8 hown hK hP 0 rfl rfl 0 (by decide) wd0 rfl (.ref a1) rfl dX8_takesOut_20 ?_
        refine lv_iload hx hb dX8_takesOut_23 (lv_at hl 3 rfl) ?_
        refine lv_aload_n hx hb dX8_takesOut_25 rfl (lv_at hl 0 rfl) ?_
        refine x_get hx hb (C := RX8) (T := TX8) (N := 16) (ci := 8) hts iX8 hown hK hP 0 rfl rfl 0 (by decide) wd0 rfl (.ref a1) rfl dX8_takesOut_26 ?_
        refine lv_iload hx hb dX8_takesOut_29 (lv_at hl 3 rfl) ?_
        refine lv_iconst (v := 4) hx hb dX8_takesOut_31 (by decide) ?_
        refine lv_iadd hx hb dX8_takesOut_32 ?_
        obtain ⟨hi_22, hf⟩ := ckI_el hf
        refine va_iald hx hb hK hP 1 1 rfl rfl hi_22 dX8_takesOut_33 ?_
        obtain ⟨hi_23, hf⟩ := ckI_el hf
        obtain ⟨st_24, est_24, hf⟩ := lt_el hf
        refine x_iast hx hb hK hP hD hS 1 rfl hi_23 est_24 (w' := wX8 cy a0 a1 a2 a3 a4 a5 a6 st_24 gr hi gh rc tx tl rk tb tk at_ ltr on_ tw th nu) rfl dX8_takesOut_34 (fun H locs hP hD hS => ?_)
        refine lv_iinc (v := (z4_19 + 1)) (lv' := [(4, .int (z4_19 + 1)), (0, .ref a0), (1, .int p1), (3, .int p3)]) hx hb dX8_takesOut_35 hl (k := 3) rfl rfl (by decide) rfl (fun ls hl => ?_)
        refine lv_goto (tgt := 7) hx hb dX8_takesOut_38 (by decide) ?_
        exact ih st_24 (z4_19 + 1) _ _ _ _ hf hP hD hS (lv_sub hl [1, 2, 3, 0] rfl) hr_7 kx_7
  obtain ⟨st_6, h1_7, hf⟩ := bd1_el hf
  refine hL_7 2147483648 st x4_1 _ _ _ _ h1_7 hP hD hS (lv_sub hl [1, 2, 4, 0] rfl) trivial (fun st_69 ho H locs ls hP hD hS hl => ?_)
  cases ho
  refine lv_iload_n hx hb dX8_takesOut_41 rfl (lv_at hl 1 rfl) ?_
  refine lv_iconst (v := 4) hx hb dX8_takesOut_42 (by decide) ?_
  refine lv_iload_n hx hb dX8_takesOut_43 rfl (lv_at hl 2 rfl) ?_
  refine lv_iconst (v := 1) hx hb dX8_takesOut_44 (by decide) ?_
  refine lv_isub hx hb dX8_takesOut_45 ?_
  refine lv_imul hx hb dX8_takesOut_46 ?_
  refine lv_iadd hx hb dX8_takesOut_47 ?_
  obtain ⟨x4_7, ex4_7, hf⟩ := lt_el hf
  refine x_topi ex4_7 ?_
  refine lv_istore (lv' := [(4, .int x4_7), (0, .ref a0), (1, .int p1), (3, .int p3)]) hx hb dX8_takesOut_48 hl (by decide) rfl (fun ls hl => ?_)
  have hL_50 : ∀ (n : Nat) (st_12 : Nat → Int32) (z4_13 : Int32) (o : (Nat → Int32)) (H : Heap) (locs : List Loc) (ls : Array Slot), fX8_takesOut_L50 p1 p3 n st_12 z4_13 = some o → va_P D vwCl (wX8 cy a0 a1 a2 a3 a4 a5 a6 st_12 gr hi gh rc tx tl rk tb tk at_ ltr on_ tw th nu) H → va_D A (wX8 cy a0 a1 a2 a3 a4 a5 a6 st_12 gr hi gh rc tx tl rk tb tk at_ ltr on_ tw th nu) → va_S A s.heap H locs → lv_has ls 5 [(0, .ref a0), (1, .int p1), (3, .int p3), (4, .int z4_13)] → True → ((∀ (st_14 : Nat → Int32) , o = st_14 → ∀ (H : Heap) (locs : List Loc) (ls : Array Slot), va_P D vwCl (wX8 cy a0 a1 a2 a3 a4 a5 a6 st_14 gr hi gh rc tx tl rk tb tk at_ ltr on_ tw th nu) H → va_D A (wX8 cy a0 a1 a2 a3 a4 a5 a6 st_14 gr hi gh rc tx tl rk tb tk at_ ltr on_ tw th nu) → va_S A s.heap H locs → lv_has ls 5 [] → W p l e rmX8_takesOut s m ([.ref a0, .int p1, .int p2, .int p3] : List Value).toArray below meth c H locs 0 0 (MQ below (xQv D cy (wX8 cy a0 a1 a2 a3 a4 a5 a6 st' gr hi gh rc tx tl rk tb tk at_ ltr on_ tw th nu) A) ([.ref a0, .int p1, .int p2, .int p3] : List Value).toArray s 0 0 A) (F0 m 74 ls []))) → W p l e rmX8_takesOut s m ([.ref a0, .int p1, .int p2, .int p3] : List Value).toArray below meth c H locs 0 0 (MQ below (xQv D cy (wX8 cy a0 a1 a2 a3 a4 a5 a6 st' gr hi gh rc tx tl rk tb tk at_ ltr on_ tw th nu) A) ([.ref a0, .int p1, .int p2, .int p3] : List Value).toArray s 0 0 A) (F0 m 50 ls []) := by
    intro n
    induction n with
    | zero =>
      intro st_12 z4_13 o_50 H locs ls hf
      rw [fX8_takesOut_L50] at hf
      cases hf
    | succ n ih =>
      intro st_12 z4_13 o_50 H locs ls hf hP hD hS hl hr_50 kx_50
      rw [fX8_takesOut_L50] at hf
      refine lv_iload hx hb dX8_takesOut_50 (lv_at hl 3 rfl) ?_
      refine lv_iload_n hx hb dX8_takesOut_52 rfl (lv_at hl 1 rfl) ?_
      refine lv_iconst (v := 4) hx hb dX8_takesOut_53 (by decide) ?_
      refine lv_iload_n hx hb dX8_takesOut_54 rfl (lv_at hl 2 rfl) ?_
      refine lv_imul hx hb dX8_takesOut_55 ?_
      refine lv_iadd hx hb dX8_takesOut_56 ?_
      refine lv_icmp_ge (tgt := 74) hx hb dX8_takesOut_57 (by decide) (fun c_15 => ?_) (fun c_15 => ?_)
      · have hf := x_t c_15 hf
        exact kx_50 st_12 (Option.some.inj hf).symm _ _ _ hP hD hS (lv_sub hl [] rfl)
      · have hf := x_f c_15 hf
        refine lv_aload_n hx hb dX8_takesOut_60 rfl (lv_at hl 0 rfl) ?_
        refine x_get hx hb (C := RX8) (T := TX8) (N := 16) (ci := 8) hts iX8 hown hK hP 0 rfl rfl 0 (by decide) wd0 rfl (.ref a1) rfl dX8_takesOut_61 ?_
        refine lv_iload hx hb dX8_takesOut_64 (lv_at hl 3 rfl) ?_
        refine lv_iconst (v := 0) hx hb dX8_takesOut_66 (by decide) ?_
        obtain ⟨hi_16, hf⟩ := ckI_el hf
        obtain ⟨st_17, est_17, hf⟩ := lt_el hf
        refine x_iast hx hb hK hP hD hS 1 rfl hi_16 est_17 (w' := wX8 cy a0 a1 a2 a3 a4 a5 a6 st_17 gr hi gh rc tx tl rk tb tk at_ ltr on_ tw th nu) rfl dX8_takesOut_67 (fun H locs hP hD hS => ?_)
        refine lv_iinc (v := (z4_13 + 1)) (lv' := [(4, .int (z4_13 + 1)), (0, .ref a0), (1, .int p1), (3, .int p3)]) hx hb dX8_takesOut_68 hl (k := 3) rfl rfl (by decide) rfl (fun ls hl => ?_)
        refine lv_goto (tgt := 50) hx hb dX8_takesOut_71 (by decide) ?_
        exact ih st_17 (z4_13 + 1) _ _ _ _ hf hP hD hS (lv_sub hl [1, 2, 3, 0] rfl) hr_50 kx_50
  obtain ⟨st_11, h1_50, hf⟩ := bd1_el hf
  refine hL_50 2147483648 st_6 x4_7 _ _ _ _ h1_50 hP hD hS (lv_sub hl [1, 2, 3, 0] rfl) trivial (fun st_119 ho H locs ls hP hD hS hl => ?_)
  cases ho
  have hf := Option.some.inj hf
  cases hf
  exact x_vret hx hb hr hlocks hK hP hD hS dX8_takesOut_74
theorem kdX8_enters : yX8_enters.cls = RX8 ∧ yX8_enters.cls ≠ "java/lang/invoke/MethodHandle" ∧ yX8_enters.cls ≠ "java/lang/invoke/VarHandle" ∧ (parseMethodDescriptor yX8_enters.desc).map (fun d => d.parameters.length) = some 4 := by decide +kernel
def rmX8_enters : Room := { frames := 1, cells := 0, slots := 0, locals := 23 }
set_option maxHeartbeats 4000000 in
set_option maxRecDepth 100000 in
theorem mX8_enters (l : Launch) (D : va_G) (cy : Nat → ClassId) (a0 a1 a2 a3 a4 a5 a6 : Nat) (st : Nat → Int32) (gr : Nat → Int64) (hi : Nat → Int32) (gh : Nat → Int64) (rc : Int32) (tx : Nat → Int32) (tl : Int32) (rk : Nat → Int32) (tb : Int32) (tk : Int64) (at_ : Int32) (ltr : Int32) (on_ : Int32) (tw : Int32) (th : Int32) (nu : Int32) (p1 : Int32) (p2 : Int32) (p3 : Int32) (p4 : Int32) (r : Int32) (st' : Nat → Int32) (hf : fX8_enters st p1 p2 p3 p4 = some (r, st')) : xMi l D cy yX8_enters aX8_enters rmX8_enters ([.ref a0, .int p1, .int p2, .int p3, .int p4] : List Value) (wX8 cy a0 a1 a2 a3 a4 a5 a6 st gr hi gh rc tx tl rk tb tk at_ ltr on_ tw th nu) (wX8 cy a0 a1 a2 a3 a4 a5 a6 st' gr hi gh rc tx tl rk tb tk at_ ltr on_ tw th nu) r := by
  intro hz
  refine x_start (Qc := xQi D cy _ r) (cc := cX8_enters) (maxL := 9) (ret := (some .int)) (by decide) rfl (Nat.le_of_ble_eq_true rfl) (lv := [(0, .ref a0), (1, .int p1), (2, .int p2), (3, .int p3), (4, .int p4)]) rfl ?_
  intro p e s m below meth c ls A hx hb hr hml hown hts hlocks hK hP hD hS hA hN hl
  have hown : s.vm.findClass RX8 = some m.cls := hown
  have hbg : ∀ w ∈ wsL_law, w ∈ aX8_enters := fun w h => List.mem_cons_of_mem _ h
  have wd0 : (Cond.fieldLink RX8 7 "ClientMoneyBookModel" "state" "[I").before ([.ref a0, .int p1, .int p2, .int p3, .int p4] : List Value).toArray s = true := hts _ (List.mem_cons_of_mem _ wm_4_9)
  have wd1 : (Cond.constantLong RX8 51 (1009)).before ([.ref a0, .int p1, .int p2, .int p3, .int p4] : List Value).toArray s = true := hts _ (List.mem_cons_of_mem _ wm_14_1)
  have wd2 : (Cond.constantLong RX8 53 (31)).before ([.ref a0, .int p1, .int p2, .int p3, .int p4] : List Value).toArray s = true := hts _ (List.mem_cons_of_mem _ wm_14_2)
  have wd3 : (Cond.constantLong RX8 55 (17)).before ([.ref a0, .int p1, .int p2, .int p3, .int p4] : List Value).toArray s = true := hts _ (List.mem_cons_of_mem _ wm_14_3)
  have wd4 : (Cond.constantLong RX8 57 (101)).before ([.ref a0, .int p1, .int p2, .int p3, .int p4] : List Value).toArray s = true := hts _ (List.mem_cons_of_mem _ wm_14_4)
  have wd5 : (Cond.constantLong RX8 59 (103)).before ([.ref a0, .int p1, .int p2, .int p3, .int p4] : List Value).toArray s = true := hts _ (List.mem_cons_of_mem _ wm_14_5)
  have wd6 : (Cond.constantLong RX8 61 (1000003)).before ([.ref a0, .int p1, .int p2, .int p3, .int p4] : List Value).toArray s = true := hts _ (List.mem_cons_of_mem _ wm_14_6)
  have iX8 : ∀ w ∈ u_ws RX8 TX8 16, w ∈ aX8_enters := fun w h => List.mem_cons_of_mem _ (inlX8 w h)
  unfold fX8_enters at hf
  refine lv_aload_n hx hb dX8_enters_0 rfl (lv_at hl 0 rfl) ?_
  refine x_get hx hb (C := RX8) (T := TX8) (N := 16) (ci := 8) hts iX8 hown hK hP 0 rfl rfl 0 (by decide) wd0 rfl (.ref a1) rfl dX8_enters_1 ?_
  refine lv_bipush (v := 11) hx hb dX8_enters_4 (by decide) ?_
  obtain ⟨hi_1, hf⟩ := ckI_el hf
  refine va_iald hx hb hK hP 1 1 rfl rfl hi_1 dX8_enters_6 ?_
  refine lv_i2l (v := (st (11 : Int32).toNatClampNeg).toInt64) hx hb dX8_enters_7 rfl ?_
  refine lv_ldc2 hx hb hown wd1 dX8_enters_8 ?_
  refine lv_lmul hx hb dX8_enters_11 ?_
  refine lv_aload_n hx hb dX8_enters_12 rfl (lv_at hl 0 rfl) ?_
  refine x_get hx hb (C := RX8) (T := TX8) (N := 16) (ci := 8) hts iX8 hown hK hP 0 rfl rfl 0 (by decide) wd0 rfl (.ref a1) rfl dX8_enters_13 ?_
  refine lv_iconst (v := 0) hx hb dX8_enters_16 (by decide) ?_
  obtain ⟨hi_2, hf⟩ := ckI_el hf
  refine va_iald hx hb hK hP 1 1 rfl rfl hi_2 dX8_enters_17 ?_
  refine lv_i2l (v := (st (0 : Int32).toNatClampNeg).toInt64) hx hb dX8_enters_18 rfl ?_
  refine lv_ldc2 hx hb hown wd2 dX8_enters_19 ?_
  refine lv_lmul hx hb dX8_enters_22 ?_
  refine lv_ladd hx hb dX8_enters_23 ?_
  refine lv_iload_n hx hb dX8_enters_24 rfl (lv_at hl 1 rfl) ?_
  refine lv_i2l (v := p1.toInt64) hx hb dX8_enters_25 rfl ?_
  refine lv_ldc2 hx hb hown wd3 dX8_enters_26 ?_
  refine lv_lmul hx hb dX8_enters_29 ?_
  refine lv_ladd hx hb dX8_enters_30 ?_
  refine lv_iload_n hx hb dX8_enters_31 rfl (lv_at hl 2 rfl) ?_
  refine lv_i2l (v := p2.toInt64) hx hb dX8_enters_32 rfl ?_
  refine lv_ldc2 hx hb hown wd4 dX8_enters_33 ?_
  refine lv_lmul hx hb dX8_enters_36 ?_
  refine lv_ladd hx hb dX8_enters_37 ?_
  refine lv_iload_n hx hb dX8_enters_38 rfl (lv_at hl 3 rfl) ?_
  refine lv_i2l (v := p3.toInt64) hx hb dX8_enters_39 rfl ?_
  refine lv_ldc2 hx hb hown wd5 dX8_enters_40 ?_
  refine lv_lmul hx hb dX8_enters_43 ?_
  refine lv_ladd hx hb dX8_enters_44 ?_
  refine lv_iload hx hb dX8_enters_45 (lv_at hl 4 rfl) ?_
  refine lv_i2l (v := p4.toInt64) hx hb dX8_enters_47 rfl ?_
  refine lv_ladd hx hb dX8_enters_48 ?_
  obtain ⟨x5_3, ex5_3, hf⟩ := lt_el hf
  refine x_topl ex5_3 ?_
  refine lv_lstore (lv' := [(5, .long x5_3), (0, .ref a0), (1, .int p1), (2, .int p2), (3, .int p3), (4, .int p4)]) hx hb dX8_enters_49 hl (by decide) rfl (fun ls hl => ?_)
  refine lv_aload_n hx hb dX8_enters_51 rfl (lv_at hl 1 rfl) ?_
  refine x_get hx hb (C := RX8) (T := TX8) (N := 16) (ci := 8) hts iX8 hown hK hP 0 rfl rfl 0 (by decide) wd0 rfl (.ref a1) rfl dX8_enters_52 ?_
  refine lv_bipush (v := 11) hx hb dX8_enters_55 (by decide) ?_
  refine lv_lload hx hb dX8_enters_57 (lv_at hl 0 rfl) ?_
  refine lv_ldc2 hx hb hown wd6 dX8_enters_59 ?_
  refine lv_lrem hx hb dX8_enters_62 (by decide) ?_
  refine lv_l2i (v := (x5_3 - x5_3 / 1000003 * 1000003).toInt32) hx hb dX8_enters_63 rfl ?_
  obtain ⟨hi_4, hf⟩ := ckI_el hf
  obtain ⟨st_5, est_5, hf⟩ := lt_el hf
  refine x_iast hx hb hK hP hD hS 1 rfl hi_4 est_5 (w' := wX8 cy a0 a1 a2 a3 a4 a5 a6 st_5 gr hi gh rc tx tl rk tb tk at_ ltr on_ tw th nu) rfl dX8_enters_64 (fun H locs hP hD hS => ?_)
  refine lv_sipush (v := 168) hx hb dX8_enters_65 (by decide) ?_
  refine lv_bipush (v := 7) hx hb dX8_enters_68 (by decide) ?_
  refine lv_aload_n hx hb dX8_enters_70 rfl (lv_at hl 1 rfl) ?_
  refine x_get hx hb (C := RX8) (T := TX8) (N := 16) (ci := 8) hts iX8 hown hK hP 0 rfl rfl 0 (by decide) wd0 rfl (.ref a1) rfl dX8_enters_71 ?_
  refine lv_bipush (v := 10) hx hb dX8_enters_74 (by decide) ?_
  obtain ⟨hi_6, hf⟩ := ckI_el hf
  refine va_iald hx hb hK hP 1 1 rfl rfl hi_6 dX8_enters_76 ?_
  refine lv_bipush (v := 24) hx hb dX8_enters_77 (by decide) ?_
  refine lv_irem hx hb dX8_enters_79 (by decide) ?_
  refine lv_imul hx hb dX8_enters_80 ?_
  refine lv_iadd hx hb dX8_enters_81 ?_
  obtain ⟨x7_7, ex7_7, hf⟩ := lt_el hf
  refine x_topi ex7_7 ?_
  refine lv_istore (lv' := [(7, .int x7_7), (5, .long x5_3), (0, .ref a0), (1, .int p1), (2, .int p2), (3, .int p3), (4, .int p4)]) hx hb dX8_enters_82 hl (by decide) rfl (fun ls hl => ?_)
  refine lv_aload_n hx hb dX8_enters_84 rfl (lv_at hl 2 rfl) ?_
  refine x_get hx hb (C := RX8) (T := TX8) (N := 16) (ci := 8) hts iX8 hown hK hP 0 rfl rfl 0 (by decide) wd0 rfl (.ref a1) rfl dX8_enters_85 ?_
  refine lv_iload hx hb dX8_enters_88 (lv_at hl 0 rfl) ?_
  refine lv_iconst (v := 0) hx hb dX8_enters_90 (by decide) ?_
  refine lv_iadd hx hb dX8_enters_91 ?_
  refine lv_aload_n hx hb dX8_enters_92 rfl (lv_at hl 2 rfl) ?_
  refine x_get hx hb (C := RX8) (T := TX8) (N := 16) (ci := 8) hts iX8 hown hK hP 0 rfl rfl 0 (by decide) wd0 rfl (.ref a1) rfl dX8_enters_93 ?_
  refine lv_iconst (v := 0) hx hb dX8_enters_96 (by decide) ?_
  obtain ⟨hi_8, hf⟩ := ckI_el hf
  refine va_iald hx hb hK hP 1 1 rfl rfl hi_8 dX8_enters_97 ?_
  obtain ⟨hi_9, hf⟩ := ckI_el hf
  obtain ⟨st_10, est_10, hf⟩ := lt_el hf
  refine x_iast hx hb hK hP hD hS 1 rfl hi_9 est_10 (w' := wX8 cy a0 a1 a2 a3 a4 a5 a6 st_10 gr hi gh rc tx tl rk tb tk at_ ltr on_ tw th nu) rfl dX8_enters_98 (fun H locs hP hD hS => ?_)
  refine lv_aload_n hx hb dX8_enters_99 rfl (lv_at hl 2 rfl) ?_
  refine x_get hx hb (C := RX8) (T := TX8) (N := 16) (ci := 8) hts iX8 hown hK hP 0 rfl rfl 0 (by decide) wd0 rfl (.ref a1) rfl dX8_enters_100 ?_
  refine lv_iload hx hb dX8_enters_103 (lv_at hl 0 rfl) ?_
  refine lv_iconst (v := 1) hx hb dX8_enters_105 (by decide) ?_
  refine lv_iadd hx hb dX8_enters_106 ?_
  refine lv_iload_n hx hb dX8_enters_107 rfl (lv_at hl 3 rfl) ?_
  obtain ⟨hi_11, hf⟩ := ckI_el hf
  obtain ⟨st_12, est_12, hf⟩ := lt_el hf
  refine x_iast hx hb hK hP hD hS 1 rfl hi_11 est_12 (w' := wX8 cy a0 a1 a2 a3 a4 a5 a6 st_12 gr hi gh rc tx tl rk tb tk at_ ltr on_ tw th nu) rfl dX8_enters_108 (fun H locs hP hD hS => ?_)
  refine lv_aload_n hx hb dX8_enters_109 rfl (lv_at hl 2 rfl) ?_
  refine x_get hx hb (C := RX8) (T := TX8) (N := 16) (ci := 8) hts iX8 hown hK hP 0 rfl rfl 0 (by decide) wd0 rfl (.ref a1) rfl dX8_enters_110 ?_
  refine lv_iload hx hb dX8_enters_113 (lv_at hl 0 rfl) ?_
  refine lv_iconst (v := 2) hx hb dX8_enters_115 (by decide) ?_
  refine lv_iadd hx hb dX8_enters_116 ?_
  refine lv_iload_n hx hb dX8_enters_117 rfl (lv_at hl 4 rfl) ?_
  obtain ⟨hi_13, hf⟩ := ckI_el hf
  obtain ⟨st_14, est_14, hf⟩ := lt_el hf
  refine x_iast hx hb hK hP hD hS 1 rfl hi_13 est_14 (w' := wX8 cy a0 a1 a2 a3 a4 a5 a6 st_14 gr hi gh rc tx tl rk tb tk at_ ltr on_ tw th nu) rfl dX8_enters_118 (fun H locs hP hD hS => ?_)
  refine lv_aload_n hx hb dX8_enters_119 rfl (lv_at hl 2 rfl) ?_
  refine x_get hx hb (C := RX8) (T := TX8) (N := 16) (ci := 8) hts iX8 hown hK hP 0 rfl rfl 0 (by decide) wd0 rfl (.ref a1) rfl dX8_enters_120 ?_
  refine lv_iload hx hb dX8_enters_123 (lv_at hl 0 rfl) ?_
  refine lv_iconst (v := 3) hx hb dX8_enters_125 (by decide) ?_
  refine lv_iadd hx hb dX8_enters_126 ?_
  refine lv_iload_n hx hb dX8_enters_127 rfl (lv_at hl 5 rfl) ?_
  obtain ⟨hi_15, hf⟩ := ckI_el hf
  obtain ⟨st_16, est_16, hf⟩ := lt_el hf
  refine x_iast hx hb hK hP hD hS 1 rfl hi_15 est_16 (w' := wX8 cy a0 a1 a2 a3 a4 a5 a6 st_16 gr hi gh rc tx tl rk tb tk at_ ltr on_ tw th nu) rfl dX8_enters_128 (fun H locs hP hD hS => ?_)
  refine lv_aload_n hx hb dX8_enters_129 rfl (lv_at hl 2 rfl) ?_
  refine x_get hx hb (C := RX8) (T := TX8) (N := 16) (ci := 8) hts iX8 hown hK hP 0 rfl rfl 0 (by decide) wd0 rfl (.ref a1) rfl dX8_enters_130 ?_
  refine lv_iload hx hb dX8_enters_133 (lv_at hl 0 rfl) ?_
  refine lv_iconst (v := 4) hx hb dX8_enters_135 (by decide) ?_
  refine lv_iadd hx hb dX8_enters_136 ?_
  refine lv_iload hx hb dX8_enters_137 (lv_at hl 6 rfl) ?_
  obtain ⟨hi_17, hf⟩ := ckI_el hf
  obtain ⟨st_18, est_18, hf⟩ := lt_el hf
  refine x_iast hx hb hK hP hD hS 1 rfl hi_17 est_18 (w' := wX8 cy a0 a1 a2 a3 a4 a5 a6 st_18 gr hi gh rc tx tl rk tb tk at_ ltr on_ tw th nu) rfl dX8_enters_139 (fun H locs hP hD hS => ?_)
  refine lv_aload_n hx hb dX8_enters_140 rfl (lv_at hl 2 rfl) ?_
  refine x_get hx hb (C := RX8) (T := TX8) (N := 16) (ci := 8) hts iX8 hown hK hP 0 rfl rfl 0 (by decide) wd0 rfl (.ref a1) rfl dX8_enters_141 ?_
  refine lv_iload hx hb dX8_enters_144 (lv_at hl 0 rfl) ?_
  refine lv_iconst (v := 5) hx hb dX8_enters_146 (by decide) ?_
  refine lv_iadd hx hb dX8_enters_147 ?_
  refine lv_aload_n hx hb dX8_enters_148 rfl (lv_at hl 2 rfl) ?_
  refine x_get hx hb (C := RX8) (T := TX8) (N := 16) (ci := 8) hts iX8 hown hK hP 0 rfl rfl 0 (by decide) wd0 rfl (.ref a1) rfl dX8_enters_149 ?_
  refine lv_bipush (v := 11) hx hb dX8_enters_152 (by decide) ?_
  obtain ⟨hi_19, hf⟩ := ckI_el hf
  refine va_iald hx hb hK hP 1 1 rfl rfl hi_19 dX8_enters_154 ?_
  obtain ⟨hi_20, hf⟩ := ckI_el hf
  obtain ⟨st_21, est_21, hf⟩ := lt_el hf
  refine x_iast hx hb hK hP hD hS 1 rfl hi_20 est_21 (w' := wX8 cy a0 a1 a2 a3 a4 a5 a6 st_21 gr hi gh rc tx tl rk tb tk at_ ltr on_ tw th nu) rfl dX8_enters_155 (fun H locs hP hD hS => ?_)
  refine lv_aload_n hx hb dX8_enters_156 rfl (lv_at hl 2 rfl) ?_
  refine x_get hx hb (C := RX8) (T := TX8) (N := 16) (ci := 8) hts iX8 hown hK hP 0 rfl rfl 0 (by decide) wd0 rfl (.ref a1) rfl dX8_enters_157 ?_
  refine lv_iload hx hb dX8_enters_160 (lv_at hl 0 rfl) ?_
  refine lv_bipush (v := 6) hx hb dX8_enters_162 (by decide) ?_
  refine lv_iadd hx hb dX8_enters_164 ?_
  refine lv_iconst (v := 0) hx hb dX8_enters_165 (by decide) ?_
  obtain ⟨hi_22, hf⟩ := ckI_el hf
  obtain ⟨st_23, est_23, hf⟩ := lt_el hf
  refine x_iast hx hb hK hP hD hS 1 rfl hi_22 est_23 (w' := wX8 cy a0 a1 a2 a3 a4 a5 a6 st_23 gr hi gh rc tx tl rk tb tk at_ ltr on_ tw th nu) rfl dX8_enters_166 (fun H locs hP hD hS => ?_)
  refine lv_aload_n hx hb dX8_enters_167 rfl (lv_at hl 2 rfl) ?_
  refine x_get hx hb (C := RX8) (T := TX8) (N := 16) (ci := 8) hts iX8 hown hK hP 0 rfl rfl 0 (by decide) wd0 rfl (.ref a1) rfl dX8_enters_168 ?_
  refine lv_bipush (v := 10) hx hb dX8_enters_171 (by decide) ?_
  refine lv_dup2_11 hx hb dX8_enters_173 rfl rfl ?_
  obtain ⟨hi_24, hf⟩ := ckI_el hf
  refine va_iald hx hb hK hP 1 1 rfl rfl hi_24 dX8_enters_174 ?_
  refine lv_iconst (v := 1) hx hb dX8_enters_175 (by decide) ?_
  refine lv_iadd hx hb dX8_enters_176 ?_
  obtain ⟨hi_25, hf⟩ := ckI_el hf
  obtain ⟨st_26, est_26, hf⟩ := lt_el hf
  refine x_iast hx hb hK hP hD hS 1 rfl hi_25 est_26 (w' := wX8 cy a0 a1 a2 a3 a4 a5 a6 st_26 gr hi gh rc tx tl rk tb tk at_ ltr on_ tw th nu) rfl dX8_enters_177 (fun H locs hP hD hS => ?_)
  refine lv_iconst (v := 0) hx hb dX8_enters_178 (by decide) ?_
  refine lv_istore (lv' := [(8, .int 0), (7, .int x7_7), (5, .long x5_3), (0, .ref a0), (1, .int p1), (2, .int p2), (3, .int p3), (4, .int p4)]) hx hb dX8_enters_179 hl (by decide) rfl (fun ls hl => ?_)
  have hL_181 : ∀ (n : Nat) (st_43 : Nat → Int32) (z8_44 : Int32) (o : (Nat → Int32)) (H : Heap) (locs : List Loc) (ls : Array Slot), fX8_enters_L181 p2 p3 n st_43 z8_44 = some o → va_P D vwCl (wX8 cy a0 a1 a2 a3 a4 a5 a6 st_43 gr hi gh rc tx tl rk tb tk at_ ltr on_ tw th nu) H → va_D A (wX8 cy a0 a1 a2 a3 a4 a5 a6 st_43 gr hi gh rc tx tl rk tb tk at_ ltr on_ tw th nu) → va_S A s.heap H locs → lv_has ls 9 [(0, .ref a0), (2, .int p2), (3, .int p3), (8, .int z8_44)] → True → ((∀ (st_45 : Nat → Int32) , o = st_45 → ∀ (H : Heap) (locs : List Loc) (ls : Array Slot), va_P D vwCl (wX8 cy a0 a1 a2 a3 a4 a5 a6 st_45 gr hi gh rc tx tl rk tb tk at_ ltr on_ tw th nu) H → va_D A (wX8 cy a0 a1 a2 a3 a4 a5 a6 st_45 gr hi gh rc tx tl rk tb tk at_ ltr on_ tw th nu) → va_S A s.heap H locs → lv_has ls 9 [(0, .ref a0)] → W p l e rmX8_enters s m ([.ref a0, .int p1, .int p2, .int p3, .int p4] : List Value).toArray below meth c H locs 0 0 (MQ below (xQi D cy (wX8 cy a0 a1 a2 a3 a4 a5 a6 st' gr hi gh rc tx tl rk tb tk at_ ltr on_ tw th nu) r A) ([.ref a0, .int p1, .int p2, .int p3, .int p4] : List Value).toArray s 0 0 A) (F0 m 233 ls []))) → W p l e rmX8_enters s m ([.ref a0, .int p1, .int p2, .int p3, .int p4] : List Value).toArray below meth c H locs 0 0 (MQ below (xQi D cy (wX8 cy a0 a1 a2 a3 a4 a5 a6 st' gr hi gh rc tx tl rk tb tk at_ ltr on_ tw th nu) r A) ([.ref a0, .int p1, .int p2, .int p3, .int p4] : List Value).toArray s 0 0 A) (F0 m 181 ls []) := by
    intro n
    induction n with
    | zero =>
      intro st_43 z8_44 o_181 H locs ls hf
      rw [fX8_enters_L181] at hf
      cases hf
    | succ n ih =>
      intro st_43 z8_44 o_181 H locs ls hf hP hD hS hl hr_181 kx_181
      rw [fX8_enters_L181] at hf
      refine lv_iload hx hb dX8_enters_181 (lv_at hl 3 rfl) ?_
      refine lv_aload_n hx hb dX8_enters_183 rfl (lv_at hl 0 rfl) ?_
      refine x_get hx hb (C := RX8) (T := TX8) (N := 16) (ci := 8) hts iX8 hown hK hP 0 rfl rfl 0 (by decide) wd0 rfl (.ref a1) rfl dX8_enters_184 ?_
      refine lv_iconst (v := 5) hx hb dX8_enters_187 (by decide) ?_
      obtain ⟨hi_46, hf⟩ := ckI_el hf
      refine va_iald hx hb hK hP 1 1 rfl rfl hi_46 dX8_enters_188 ?_
      refine lv_icmp_ge (tgt := 233) hx hb dX8_enters_189 (by decide) (fun c_47 => ?_) (fun c_47 => ?_)
      · have hf := x_t c_47 hf
        exact kx_181 st_43 (Option.some.inj hf).symm _ _ _ hP hD hS (lv_sub hl [0] rfl)
      · have hf := x_f c_47 hf
        refine lv_aload_n hx hb dX8_enters_192 rfl (lv_at hl 0 rfl) ?_
        refine lv_iload hx hb dX8_enters_193 (lv_at hl 3 rfl) ?_
        refine lv_iconst (v := 0) hx hb dX8_enters_195 (by decide) ?_
        obtain ⟨r_48, h_49, hf⟩ := bd1_el hf
        refine x_callVi (As := [.int z8_44, .int 0]) (rest := []) ⟨hx, hb, hml, hown, hts⟩ (mX8_part l D cy a0 a1 a2 a3 a4 a5 a6 st_43 gr hi gh rc tx tl rk tb tk at_ ltr on_ tw th nu z8_44 0 r_48 h_49) (cwV 2 hts (gcV_X8_part hbg wm_9_9) rfl rfl rfl kdX8_part ⟨Nat.le_of_ble_eq_true rfl, Nat.le_of_ble_eq_true rfl⟩) (w1 := []) (w2 := []) (w' := wX8 cy a0 a1 a2 a3 a4 a5 a6 st_43 gr hi gh rc tx tl rk tb tk at_ ltr on_ tw th nu) (List.append_nil _) (List.append_nil _) hP hK hD hN hS hA (q0 := 0) rfl rfl rfl rfl hl rfl (Nat.le_of_ble_eq_true rfl) dX8_enters_196 ⟨Nat.zero_le _, Nat.zero_le _⟩ (fun H locs hP hD hS => ?_)
        refine lv_iload_n hx hb dX8_enters_199 rfl (lv_at hl 1 rfl) ?_
        refine lv_icmp_eq (tgt := 214) hx hb dX8_enters_200 (by decide) (fun c_50 => ?_) (fun c_50 => ?_)
        · have hf := x_t c_50 hf
          refine lv_aload_n hx hb dX8_enters_214 rfl (lv_at hl 0 rfl) ?_
          refine lv_iload hx hb dX8_enters_215 (lv_at hl 3 rfl) ?_
          refine lv_iconst (v := 2) hx hb dX8_enters_217 (by decide) ?_
          refine lv_aload_n hx hb dX8_enters_218 rfl (lv_at hl 0 rfl) ?_
          refine x_get hx hb (C := RX8) (T := TX8) (N := 16) (ci := 8) hts iX8 hown hK hP 0 rfl rfl 0 (by decide) wd0 rfl (.ref a1) rfl dX8_enters_219 ?_
          refine lv_iconst (v := 0) hx hb dX8_enters_222 (by decide) ?_
          obtain ⟨hi_51, hf⟩ := ckI_el hf
          refine va_iald hx hb hK hP 1 1 rfl rfl hi_51 dX8_enters_223 ?_
          obtain ⟨st_52, h_53, hf⟩ := bd1_el hf
          refine x_callVv (As := [.int z8_44, .int 2, .int (st_43 (0 : Int32).toNatClampNeg)]) (rest := []) ⟨hx, hb, hml, hown, hts⟩ (mX8_setPart l D cy a0 a1 a2 a3 a4 a5 a6 st_43 gr hi gh rc tx tl rk tb tk at_ ltr on_ tw th nu z8_44 2 (st_43 (0 : Int32).toNatClampNeg) st_52 h_53) (cwV 3 hts (gcV_X8_setPart hbg wm_9_13) rfl rfl rfl kdX8_setPart ⟨Nat.le_of_ble_eq_true rfl, Nat.le_of_ble_eq_true rfl⟩) (w1 := []) (w2 := []) (w' := wX8 cy a0 a1 a2 a3 a4 a5 a6 st_52 gr hi gh rc tx tl rk tb tk at_ ltr on_ tw th nu) (List.append_nil _) (List.append_nil _) hP hK hD hN hS hA (q0 := 0) rfl rfl rfl rfl hl rfl (Nat.le_of_ble_eq_true rfl) dX8_enters_224 ⟨Nat.zero_le _, Nat.zero_le _⟩ (fun H locs hP hD hS => ?_)
          refine lv_iinc (v := (z8_44 + 1)) (lv' := [(8, .int (z8_44 + 1)), (0, .ref a0), (2, .int p2), (3, .int p3)]) hx hb dX8_enters_227 hl (k := 3) rfl rfl (by decide) rfl (fun ls hl => ?_)
          refine lv_goto (tgt := 181) hx hb dX8_enters_230 (by decide) ?_
          exact ih st_52 (z8_44 + 1) _ _ _ _ hf hP hD hS (lv_sub hl [1, 2, 3, 0] rfl) hr_181 kx_181
        · have hf := x_f c_50 hf
          refine lv_aload_n hx hb dX8_enters_203 rfl (lv_at hl 0 rfl) ?_
          refine lv_iload hx hb dX8_enters_204 (lv_at hl 3 rfl) ?_
          refine lv_iconst (v := 0) hx hb dX8_enters_206 (by decide) ?_
          obtain ⟨r_54, h_55, hf⟩ := bd1_el hf
          refine x_callVi (As := [.int z8_44, .int 0]) (rest := []) ⟨hx, hb, hml, hown, hts⟩ (mX8_part l D cy a0 a1 a2 a3 a4 a5 a6 st_43 gr hi gh rc tx tl rk tb tk at_ ltr on_ tw th nu z8_44 0 r_54 h_55) (cwV 2 hts (gcV_X8_part hbg wm_9_9) rfl rfl rfl kdX8_part ⟨Nat.le_of_ble_eq_true rfl, Nat.le_of_ble_eq_true rfl⟩) (w1 := []) (w2 := []) (w' := wX8 cy a0 a1 a2 a3 a4 a5 a6 st_43 gr hi gh rc tx tl rk tb tk at_ ltr on_ tw th nu) (List.append_nil _) (List.append_nil _) hP hK hD hN hS hA (q0 := 0) rfl rfl rfl rfl hl rfl (Nat.le_of_ble_eq_true rfl) dX8_enters_207 ⟨Nat.zero_le _, Nat.zero_le _⟩ (fun H locs hP hD hS => ?_)
          refine lv_iload_n hx hb dX8_enters_210 rfl (lv_at hl 2 rfl) ?_
          refine lv_icmp_ne (tgt := 227) hx hb dX8_enters_211 (by decide) (fun c_56 => ?_) (fun c_56 => ?_)
          · have hf := x_f c_56 hf
            refine lv_iinc (v := (z8_44 + 1)) (lv' := [(8, .int (z8_44 + 1)), (0, .ref a0), (2, .int p2), (3, .int p3)]) hx hb dX8_enters_227 hl (k := 3) rfl rfl (by decide) rfl (fun ls hl => ?_)
            refine lv_goto (tgt := 181) hx hb dX8_enters_230 (by decide) ?_
            exact ih st_43 (z8_44 + 1) _ _ _ _ hf hP hD hS (lv_sub hl [1, 2, 3, 0] rfl) hr_181 kx_181
          · have hf := x_t c_56 hf
            refine lv_aload_n hx hb dX8_enters_214 rfl (lv_at hl 0 rfl) ?_
            refine lv_iload hx hb dX8_enters_215 (lv_at hl 3 rfl) ?_
            refine lv_iconst (v := 2) hx hb dX8_enters_217 (by decide) ?_
            refine lv_aload_n hx hb dX8_enters_218 rfl (lv_at hl 0 rfl) ?_
            refine x_get hx hb (C := RX8) (T := TX8) (N := 16) (ci := 8) hts iX8 hown hK hP 0 rfl rfl 0 (by decide) wd0 rfl (.ref a1) rfl dX8_enters_219 ?_
            refine lv_iconst (v := 0) hx hb dX8_enters_222 (by decide) ?_
            obtain ⟨hi_57, hf⟩ := ckI_el hf
            refine va_iald hx hb hK hP 1 1 rfl rfl hi_57 dX8_enters_223 ?_
            obtain ⟨st_58, h_59, hf⟩ := bd1_el hf
            refine x_callVv (As := [.int z8_44, .int 2, .int (st_43 (0 : Int32).toNatClampNeg)]) (rest := []) ⟨hx, hb, hml, hown, hts⟩ (mX8_setPart l D cy a0 a1 a2 a3 a4 a5 a6 st_43 gr hi gh rc tx tl rk tb tk at_ ltr on_ tw th nu z8_44 2 (st_43 (0 : Int32).toNatClampNeg) st_58 h_59) (cwV 3 hts (gcV_X8_setPart hbg wm_9_13) rfl rfl rfl kdX8_setPart ⟨Nat.le_of_ble_eq_true rfl, Nat.le_of_ble_eq_true rfl⟩) (w1 := []) (w2 := []) (w' := wX8 cy a0 a1 a2 a3 a4 a5 a6 st_58 gr hi gh rc tx tl rk tb tk at_ ltr on_ tw th nu) (List.append_nil _) (List.append_nil _) hP hK hD hN hS hA (q0 := 0) rfl rfl rfl rfl hl rfl (Nat.le_of_ble_eq_true rfl) dX8_enters_224 ⟨Nat.zero_le _, Nat.zero_le _⟩ (fun H locs hP hD hS => ?_)
            refine lv_iinc (v := (z8_44 + 1)) (lv' := [(8, .int (z8_44 + 1)), (0, .ref a0), (2, .int p2), (3, .int p3)]) hx hb dX8_enters_227 hl (k := 3) rfl rfl (by decide) rfl (fun ls hl => ?_)
            refine lv_goto (tgt := 181) hx hb dX8_enters_230 (by decide) ?_
            exact ih st_58 (z8_44 + 1) _ _ _ _ hf hP hD hS (lv_sub hl [1, 2, 3, 0] rfl) hr_181 kx_181
  obtain ⟨st_41, h1_181, hf⟩ := bd1_el hf
  refine hL_181 2147483648 st_26 0 _ _ _ _ h1_181 hP hD hS (lv_sub hl [3, 5, 6, 0] rfl) trivial (fun st_419 ho H locs ls hP hD hS hl => ?_)
  cases ho
  refine lv_aload_n hx hb dX8_enters_233 rfl (lv_at hl 0 rfl) ?_
  refine x_get hx hb (C := RX8) (T := TX8) (N := 16) (ci := 8) hts iX8 hown hK hP 0 rfl rfl 0 (by decide) wd0 rfl (.ref a1) rfl dX8_enters_234 ?_
  refine lv_bipush (v := 10) hx hb dX8_enters_237 (by decide) ?_
  obtain ⟨hi_42, hf⟩ := ckI_el hf
  refine va_iald hx hb hK hP 1 1 rfl rfl hi_42 dX8_enters_239 ?_
  have hf := Option.some.inj hf
  cases hf
  exact x_iret hx hb hr hlocks hK hP hD hS dX8_enters_240
