theorem kdL_low : yL_low.cls ≠ "java/lang/invoke/MethodHandle" ∧ yL_low.cls ≠ "java/lang/invoke/VarHandle" ∧ (parseMethodDescriptor yL_low.desc).map (fun d => d.parameters.length) = some 2 := by decide +kernel
def rmL_low : Room := { frames := 0, cells := 0, slots := 0, locals := 0 }
set_option maxHeartbeats 4000000 in
set_option maxRecDepth 100000 in
theorem mL_low (l : Launch) (D : va_G) (cy : Nat → ClassId)  (p1 : Int32) (p2 : Int32) (r : Int32) (hf : fL_low p1 p2 = some r) : xMi l D cy yL_low aL_low rmL_low ([.int p1, .int p2] : List Value) ([]) ([]) r := by
  intro hz
  refine x_start (Qc := xQi D cy _ r) (cc := cL_low) (maxL := 2) (ret := (some .int)) (by decide) rfl (Nat.le_of_ble_eq_true rfl) (lv := [(0, .int p1), (1, .int p2)]) rfl ?_
  intro p e s m below meth c ls A hx hb hr hml hown hts hlocks hK hP hD hS hA hN hl
  have hown : s.vm.findClass RL = some m.cls := hown
  have hbg : ∀ w ∈ wsL_law, w ∈ aL_low := fun w h => List.mem_cons_of_mem _ h
  have wd0 : (Cond.constant RL 9 (2147483647)).before ([.int p1, .int p2] : List Value).toArray s = true := hts _ (List.mem_cons_of_mem _ wm_4_22)
  unfold fL_low at hf
  refine lv_iload_n hx hb dL_low_0 rfl (lv_at hl 0 rfl) ?_
  refine lv_ldc hx hb hown wd0 dL_low_1 ?_
  refine lv_iand hx hb dL_low_3 ?_
  refine lv_iload_n hx hb dL_low_4 rfl (lv_at hl 1 rfl) ?_
  obtain ⟨nz_1, hf⟩ := ckP_el hf
  refine lv_irem hx hb dL_low_5 nz_1 ?_
  have hf := Option.some.inj hf
  cases hf
  exact x_iret hx hb hr hlocks hK hP hD hS dL_low_6
theorem kdL_held : yL_held.cls ≠ "java/lang/invoke/MethodHandle" ∧ yL_held.cls ≠ "java/lang/invoke/VarHandle" ∧ (parseMethodDescriptor yL_held.desc).map (fun d => d.parameters.length) = some 3 := by decide +kernel
def rmL_held : Room := { frames := 0, cells := 0, slots := 0, locals := 0 }
set_option maxHeartbeats 4000000 in
set_option maxRecDepth 100000 in
theorem mL_held (l : Launch) (D : va_G) (cy : Nat → ClassId) (yh0 : Nat) (hh : Nat → Int32) (p1 : Int32) (p2 : Int32) (r : Int32) (hf : fL_held hh p1 p2 = some r) : xMi l D cy yL_held aL_held rmL_held ([.int p1, .int p2, .ref yh0] : List Value) (wAH cy yh0 hh) (wAH cy yh0 hh) r := by
  intro hz
  refine x_start (Qc := xQi D cy _ r) (cc := cL_held) (maxL := 5) (ret := (some .int)) (by decide) rfl (Nat.le_of_ble_eq_true rfl) (lv := [(0, .int p1), (1, .int p2), (2, .ref yh0)]) rfl ?_
  intro p e s m below meth c ls A hx hb hr hml hown hts hlocks hK hP hD hS hA hN hl
  have hown : s.vm.findClass RL = some m.cls := hown
  have hbg : ∀ w ∈ wsL_law, w ∈ aL_held := fun w h => List.mem_cons_of_mem _ h
  unfold fL_held at hf
  refine lv_iconst (v := 0) hx hb dL_held_0 (by decide) ?_
  refine lv_istore_n (lv' := [(3, .int 0), (0, .int p1), (1, .int p2), (2, .ref yh0)]) hx hb dL_held_1 rfl hl (by decide) rfl (fun ls hl => ?_)
  refine lv_iconst (v := 0) hx hb dL_held_2 (by decide) ?_
  refine lv_istore (lv' := [(4, .int 0), (3, .int 0), (0, .int p1), (1, .int p2), (2, .ref yh0)]) hx hb dL_held_3 hl (by decide) rfl (fun ls hl => ?_)
  have hL_5 : ∀ (n : Nat) (z3_11 : Int32) (z4_12 : Int32) (o : Int32) (H : Heap) (locs : List Loc) (ls : Array Slot), fL_held_L5 hh p1 p2 n z3_11 z4_12 = some o → va_P D vwCl (wAH cy yh0 hh) H → va_D A (wAH cy yh0 hh) → va_S A s.heap H locs → lv_has ls 5 [(0, .int p1), (1, .int p2), (2, .ref yh0), (3, .int z3_11), (4, .int z4_12)] → True → ((∀ (x3_13 : Int32) , o = x3_13 → ∀ (H : Heap) (locs : List Loc) (ls : Array Slot), va_P D vwCl (wAH cy yh0 hh) H → va_D A (wAH cy yh0 hh) → va_S A s.heap H locs → lv_has ls 5 [(3, .int x3_13)] →  W p l e rmL_held s m ([.int p1, .int p2, .ref yh0] : List Value).toArray below meth c H locs 0 0 (MQ below (xQi D cy (wAH cy yh0 hh) r A) ([.int p1, .int p2, .ref yh0] : List Value).toArray s 0 0 A) (F0 m 49 ls []))) → W p l e rmL_held s m ([.int p1, .int p2, .ref yh0] : List Value).toArray below meth c H locs 0 0 (MQ below (xQi D cy (wAH cy yh0 hh) r A) ([.int p1, .int p2, .ref yh0] : List Value).toArray s 0 0 A) (F0 m 5 ls []) := by
    intro n
    induction n with
    | zero =>
      intro z3_11 z4_12 o_5 H locs ls hf
      rw [fL_held_L5] at hf
      cases hf
    | succ n ih =>
      intro z3_11 z4_12 o_5 H locs ls hf hP hD hS hl hr_5 kx_5
      rw [fL_held_L5] at hf
      refine lv_iload hx hb dL_held_5 (lv_at hl 4 rfl) ?_
      refine lv_bipush (v := 60) hx hb dL_held_7 (by decide) ?_
      refine lv_icmp_ge (tgt := 49) hx hb dL_held_9 (by decide) (fun c_14 => ?_) (fun c_14 => ?_)
      · have hf := x_t c_14 hf
        exact kx_5 z3_11 (Option.some.inj hf).symm _ _ _ hP hD hS (lv_sub hl [3] rfl)
      · have hf := x_f c_14 hf
        refine lv_iload_n hx hb dL_held_12 rfl (lv_at hl 3 rfl) ?_
        refine lv_aload_n hx hb dL_held_13 rfl (lv_at hl 2 rfl) ?_
        refine lv_iload hx hb dL_held_14 (lv_at hl 4 rfl) ?_
        obtain ⟨hi_15, hf⟩ := ckI_el hf
        refine va_iald hx hb hK hP 0 1 rfl rfl hi_15 dL_held_16 ?_
        refine lv_iload_n hx hb dL_held_17 rfl (lv_at hl 0 rfl) ?_
        refine lv_icmp_ne (tgt := 40) hx hb dL_held_18 (by decide) (fun c_16 => ?_) (fun c_16 => ?_)
        · have hf := x_f c_16 hf
          refine lv_iconst (v := 0) hx hb dL_held_40 (by decide) ?_
          refine lv_iadd hx hb dL_held_41 ?_
          obtain ⟨x3_17, ex3_17, hf⟩ := lt_el hf
          refine x_topi ex3_17 ?_
          refine lv_istore_n (lv' := [(3, .int x3_17), (0, .int p1), (1, .int p2), (2, .ref yh0), (4, .int z4_12)]) hx hb dL_held_42 rfl hl (by decide) rfl (fun ls hl => ?_)
          refine lv_iinc (v := (z4_12 + 3)) (lv' := [(4, .int (z4_12 + 3)), (3, .int x3_17), (0, .int p1), (1, .int p2), (2, .ref yh0)]) hx hb dL_held_43 hl (k := 4) rfl rfl (by decide) rfl (fun ls hl => ?_)
          refine lv_goto (tgt := 5) hx hb dL_held_46 (by decide) ?_
          exact ih x3_17 (z4_12 + 3) _ _ _ _ hf hP hD hS (lv_sub hl [2, 3, 4, 1, 0] rfl) hr_5 kx_5
        · have hf := x_t c_16 hf
          refine lv_iload_n hx hb dL_held_21 rfl (lv_at hl 1 rfl) ?_
          refine lv_aload_n hx hb dL_held_22 rfl (lv_at hl 2 rfl) ?_
          refine lv_iload hx hb dL_held_23 (lv_at hl 4 rfl) ?_
          refine lv_iconst (v := 2) hx hb dL_held_25 (by decide) ?_
          refine lv_iadd hx hb dL_held_26 ?_
          obtain ⟨hi_18, hf⟩ := ckI_el hf
          refine va_iald hx hb hK hP 0 1 rfl rfl hi_18 dL_held_27 ?_
          refine lv_icmp_gt (tgt := 40) hx hb dL_held_28 (by decide) (fun c_19 => ?_) (fun c_19 => ?_)
          · have hf := x_t c_19 hf
            refine lv_iconst (v := 0) hx hb dL_held_40 (by decide) ?_
            refine lv_iadd hx hb dL_held_41 ?_
            obtain ⟨x3_20, ex3_20, hf⟩ := lt_el hf
            refine x_topi ex3_20 ?_
            refine lv_istore_n (lv' := [(3, .int x3_20), (0, .int p1), (1, .int p2), (2, .ref yh0), (4, .int z4_12)]) hx hb dL_held_42 rfl hl (by decide) rfl (fun ls hl => ?_)
            refine lv_iinc (v := (z4_12 + 3)) (lv' := [(4, .int (z4_12 + 3)), (3, .int x3_20), (0, .int p1), (1, .int p2), (2, .ref yh0)]) hx hb dL_held_43 hl (k := 4) rfl rfl (by decide) rfl (fun ls hl => ?_)
            refine lv_goto (tgt := 5) hx hb dL_held_46 (by decide) ?_
            exact ih x3_20 (z4_12 + 3) _ _ _ _ hf hP hD hS (lv_sub hl [2, 3, 4, 1, 0] rfl) hr_5 kx_5
          · have hf := x_f c_19 hf
            refine lv_aload_n hx hb dL_held_31 rfl (lv_at hl 2 rfl) ?_
            refine lv_iload hx hb dL_held_32 (lv_at hl 4 rfl) ?_
            refine lv_iconst (v := 1) hx hb dL_held_34 (by decide) ?_
            refine lv_iadd hx hb dL_held_35 ?_
            obtain ⟨hi_21, hf⟩ := ckI_el hf
            refine va_iald hx hb hK hP 0 1 rfl rfl hi_21 dL_held_36 ?_
            refine lv_goto (tgt := 41) hx hb dL_held_37 (by decide) ?_
            refine lv_iadd hx hb dL_held_41 ?_
            obtain ⟨x3_22, ex3_22, hf⟩ := lt_el hf
            refine x_topi ex3_22 ?_
            refine lv_istore_n (lv' := [(3, .int x3_22), (0, .int p1), (1, .int p2), (2, .ref yh0), (4, .int z4_12)]) hx hb dL_held_42 rfl hl (by decide) rfl (fun ls hl => ?_)
            refine lv_iinc (v := (z4_12 + 3)) (lv' := [(4, .int (z4_12 + 3)), (3, .int x3_22), (0, .int p1), (1, .int p2), (2, .ref yh0)]) hx hb dL_held_43 hl (k := 4) rfl rfl (by decide) rfl (fun ls hl => ?_)
            refine lv_goto (tgt := 5) hx hb dL_held_46 (by decide) ?_
            exact ih x3_22 (z4_12 + 3) _ _ _ _ hf hP hD hS (lv_sub hl [2, 3, 4, 1, 0] rfl) hr_5 kx_5
  obtain ⟨x3_10, h1_5, hf⟩ := bd1_el hf
  refine hL_5 2147483648 0 0 _ _ _ _ h1_5 hP hD hS (lv_sub hl [2, 3, 4, 1, 0] rfl) trivial (fun x3_109 ho H locs ls hP hD hS hl => ?_)
  cases ho
  refine lv_iload_n hx hb dL_held_49 rfl (lv_at hl 0 rfl) ?_
  have hf := Option.some.inj hf
  cases hf
  exact x_iret hx hb hr hlocks hK hP hD hS dL_held_50
theorem kdL_free : yL_free.cls ≠ "java/lang/invoke/MethodHandle" ∧ yL_free.cls ≠ "java/lang/invoke/VarHandle" ∧ (parseMethodDescriptor yL_free.desc).map (fun d => d.parameters.length) = some 4 := by decide +kernel
def rmL_free : Room := { frames := 1, cells := 0, slots := 0, locals := 24 }
set_option maxHeartbeats 4000000 in
set_option maxRecDepth 100000 in
theorem mL_free (l : Launch) (D : va_G) (cy : Nat → ClassId) (ym0 yq0 yh0 : Nat) (mm : Nat → Int64) (qq : Nat → Int32) (hh : Nat → Int32) (p1 : Int32) (r : Int32) (hf : fL_free mm qq hh p1 = some r) : xMi l D cy yL_free aL_free rmL_free ([.int p1, .ref ym0, .ref yq0, .ref yh0] : List Value) (wAM cy ym0 mm ++ (wAQ cy yq0 qq ++ wAH cy yh0 hh)) (wAM cy ym0 mm ++ (wAQ cy yq0 qq ++ wAH cy yh0 hh)) r := by
  intro hz
  refine x_start (Qc := xQi D cy _ r) (cc := cL_free) (maxL := 4) (ret := (some .int)) (by decide) rfl (Nat.le_of_ble_eq_true rfl) (lv := [(0, .int p1), (1, .ref ym0), (2, .ref yq0), (3, .ref yh0)]) rfl ?_
  intro p e s m below meth c ls A hx hb hr hml hown hts hlocks hK hP hD hS hA hN hl
  have hown : s.vm.findClass RL = some m.cls := hown
  have hbg : ∀ w ∈ wsL_law, w ∈ aL_free := fun w h => List.mem_cons_of_mem _ h
  unfold fL_free at hf
  refine lv_aload_n hx hb dL_free_0 rfl (lv_at hl 1 rfl) ?_
  refine lv_iload_n hx hb dL_free_1 rfl (lv_at hl 0 rfl) ?_
  obtain ⟨hi_1, hf⟩ := ckI_el hf
  refine va_lald hx hb hK hP 0 2 rfl rfl hi_1 dL_free_2 ?_
  refine lv_l2i (v := (mm p1.toNatClampNeg).toInt32) hx hb dL_free_3 rfl ?_
  refine lv_iload_n hx hb dL_free_4 rfl (lv_at hl 0 rfl) ?_
  refine lv_aload_n hx hb dL_free_5 rfl (lv_at hl 2 rfl) ?_
  refine lv_iconst (v := 0) hx hb dL_free_6 (by decide) ?_
  obtain ⟨hi_2, hf⟩ := ckI_el hf
  refine va_iald hx hb hK hP 1 1 rfl rfl hi_2 dL_free_7 ?_
  refine lv_aload_n hx hb dL_free_8 rfl (lv_at hl 3 rfl) ?_
  obtain ⟨r_3, h_4, hf⟩ := bd1_el hf
  refine x_callSi (As := [.int p1, .int (qq (0 : Int32).toNatClampNeg), .ref yh0]) (rest := [.int ((mm p1.toNatClampNeg).toInt32)]) ⟨hx, hb, hml, hown, hts⟩ (mL_held l D cy yh0 hh p1 (qq (0 : Int32).toNatClampNeg) r_3 h_4) (va_cwS 3 hts (gcS_L_held hbg wm_10_10) rfl rfl rfl kdL_held ⟨Nat.le_of_ble_eq_true rfl, Nat.le_of_ble_eq_true rfl⟩) (w1 := wAM cy ym0 mm ++ (wAQ cy yq0 qq)) (w2 := []) (w' := wAM cy ym0 mm ++ (wAQ cy yq0 qq ++ wAH cy yh0 hh)) (by simp only [List.append_assoc, List.append_nil, List.nil_append]) (by simp only [List.append_assoc, List.append_nil, List.nil_append]) hP hK hD hN hS hA rfl hl rfl (Nat.le_of_ble_eq_true rfl) dL_free_9 ⟨Nat.zero_le _, Nat.zero_le _⟩ (fun H locs hP hD hS => ?_)
  refine lv_isub hx hb dL_free_12 ?_
  have hf := Option.some.inj hf
  cases hf
  exact x_iret hx hb hr hlocks hK hP hD hS dL_free_13
theorem kdL_enter : yL_enter.cls ≠ "java/lang/invoke/MethodHandle" ∧ yL_enter.cls ≠ "java/lang/invoke/VarHandle" ∧ (parseMethodDescriptor yL_enter.desc).map (fun d => d.parameters.length) = some 7 := by decide +kernel
def rmL_enter : Room := { frames := 0, cells := 0, slots := 0, locals := 0 }
set_option maxHeartbeats 4000000 in
set_option maxRecDepth 100000 in
theorem mL_enter (l : Launch) (D : va_G) (cy : Nat → ClassId) (ye0 ym0 yq0 : Nat) (ee : Nat → Int32) (mm : Nat → Int64) (qq : Nat → Int32) (p1 : Int32) (p2 : Int32) (p3 : Int32) (p4 : Int32) (ee' : Nat → Int32) (mm' : Nat → Int64) (qq' : Nat → Int32) (hf : fL_enter ee mm qq p1 p2 p3 p4 = some (ee', mm', qq')) : xMv l D cy yL_enter aL_enter rmL_enter ([.int p1, .int p2, .int p3, .int p4, .ref ym0, .ref yq0, .ref ye0] : List Value) (wAE cy ye0 ee ++ (wAM cy ym0 mm ++ wAQ cy yq0 qq)) (wAE cy ye0 ee' ++ (wAM cy ym0 mm' ++ wAQ cy yq0 qq')) := by
  intro hz
  refine x_start (Qc := xQv D cy _) (cc := cL_enter) (maxL := 8) (ret := none) (by decide) rfl (Nat.le_of_ble_eq_true rfl) (lv := [(0, .int p1), (1, .int p2), (2, .int p3), (3, .int p4), (4, .ref ym0), (5, .ref yq0), (6, .ref ye0)]) rfl ?_
  intro p e s m below meth c ls A hx hb hr hml hown hts hlocks hK hP hD hS hA hN hl
  have hown : s.vm.findClass RL = some m.cls := hown
  have hbg : ∀ w ∈ wsL_law, w ∈ aL_enter := fun w h => List.mem_cons_of_mem _ h
  have wd0 : (Cond.constantLong RL 16 (1009)).before ([.int p1, .int p2, .int p3, .int p4, .ref ym0, .ref yq0, .ref ye0] : List Value).toArray s = true := hts _ (List.mem_cons_of_mem _ wm_10_1)
  have wd1 : (Cond.constantLong RL 18 (31)).before ([.int p1, .int p2, .int p3, .int p4, .ref ym0, .ref yq0, .ref ye0] : List Value).toArray s = true := hts _ (List.mem_cons_of_mem _ wm_10_2)
  have wd2 : (Cond.constantLong RL 20 (17)).before ([.int p1, .int p2, .int p3, .int p4, .ref ym0, .ref yq0, .ref ye0] : List Value).toArray s = true := hts _ (List.mem_cons_of_mem _ wm_10_3)
  have wd3 : (Cond.constantLong RL 22 (101)).before ([.int p1, .int p2, .int p3, .int p4, .ref ym0, .ref yq0, .ref ye0] : List Value).toArray s = true := hts _ (List.mem_cons_of_mem _ wm_10_4)
  have wd4 : (Cond.constantLong RL 24 (103)).before ([.int p1, .int p2, .int p3, .int p4, .ref ym0, .ref yq0, .ref ye0] : List Value).toArray s = true := hts _ (List.mem_cons_of_mem _ wm_10_5)
  have wd5 : (Cond.constantLong RL 26 (1000003)).before ([.int p1, .int p2, .int p3, .int p4, .ref ym0, .ref yq0, .ref ye0] : List Value).toArray s = true := hts _ (List.mem_cons_of_mem _ wm_10_6)
  unfold fL_enter at hf
  refine lv_aload hx hb dL_enter_0 (lv_at hl 4 rfl) ?_
  refine lv_bipush (v := 24) hx hb dL_enter_2 (by decide) ?_
  refine lv_aload hx hb dL_enter_4 (lv_at hl 4 rfl) ?_
  refine lv_bipush (v := 24) hx hb dL_enter_6 (by decide) ?_
  obtain ⟨hi_1, hf⟩ := ckI_el hf
  refine va_lald hx hb hK hP 1 2 rfl rfl hi_1 dL_enter_8 ?_
  refine lv_ldc2 hx hb hown wd0 dL_enter_9 ?_
  refine lv_lmul hx hb dL_enter_12 ?_
  refine lv_aload hx hb dL_enter_13 (lv_at hl 5 rfl) ?_
  refine lv_iconst (v := 0) hx hb dL_enter_15 (by decide) ?_
  obtain ⟨hi_2, hf⟩ := ckI_el hf
  refine va_iald hx hb hK hP 2 1 rfl rfl hi_2 dL_enter_16 ?_
  refine lv_i2l (v := (qq (0 : Int32).toNatClampNeg).toInt64) hx hb dL_enter_17 rfl ?_
  refine lv_ldc2 hx hb hown wd1 dL_enter_18 ?_
  refine lv_lmul hx hb dL_enter_21 ?_
  refine lv_ladd hx hb dL_enter_22 ?_
  refine lv_iload_n hx hb dL_enter_23 rfl (lv_at hl 0 rfl) ?_
  refine lv_i2l (v := p1.toInt64) hx hb dL_enter_24 rfl ?_
  refine lv_ldc2 hx hb hown wd2 dL_enter_25 ?_
  refine lv_lmul hx hb dL_enter_28 ?_
  refine lv_ladd hx hb dL_enter_29 ?_
  refine lv_iload_n hx hb dL_enter_30 rfl (lv_at hl 1 rfl) ?_
  refine lv_i2l (v := p2.toInt64) hx hb dL_enter_31 rfl ?_
  refine lv_ldc2 hx hb hown wd3 dL_enter_32 ?_
  refine lv_lmul hx hb dL_enter_35 ?_
  refine lv_ladd hx hb dL_enter_36 ?_
  refine lv_iload_n hx hb dL_enter_37 rfl (lv_at hl 2 rfl) ?_
  refine lv_i2l (v := p3.toInt64) hx hb dL_enter_38 rfl ?_
  refine lv_ldc2 hx hb hown wd4 dL_enter_39 ?_
  refine lv_lmul hx hb dL_enter_42 ?_
  refine lv_ladd hx hb dL_enter_43 ?_
  refine lv_iload_n hx hb dL_enter_44 rfl (lv_at hl 3 rfl) ?_
  refine lv_i2l (v := p4.toInt64) hx hb dL_enter_45 rfl ?_
  refine lv_ladd hx hb dL_enter_46 ?_
  refine lv_ldc2 hx hb hown wd5 dL_enter_47 ?_
  refine lv_lrem hx hb dL_enter_50 (by decide) ?_
  obtain ⟨hi_3, hf⟩ := ckI_el hf
  obtain ⟨mm_4, emm_4, hf⟩ := lt_el hf
  refine x_last hx hb hK hP hD hS 1 rfl hi_3 emm_4 (w' := wAE cy ye0 ee ++ (wAM cy ym0 mm_4 ++ wAQ cy yq0 qq)) rfl dL_enter_51 (fun H locs hP hD hS => ?_)
  refine lv_aload hx hb dL_enter_52 (lv_at hl 5 rfl) ?_
  refine lv_iconst (v := 5) hx hb dL_enter_54 (by decide) ?_
  refine lv_dup2_11 hx hb dL_enter_55 rfl rfl ?_
  obtain ⟨hi_5, hf⟩ := ckI_el hf
  refine va_iald hx hb hK hP 2 1 rfl rfl hi_5 dL_enter_56 ?_
  refine lv_iconst (v := 1) hx hb dL_enter_57 (by decide) ?_
  refine lv_iadd hx hb dL_enter_58 ?_
  obtain ⟨hi_6, hf⟩ := ckI_el hf
  obtain ⟨qq_7, eqq_7, hf⟩ := lt_el hf
  refine x_iast hx hb hK hP hD hS 2 rfl hi_6 eqq_7 (w' := wAE cy ye0 ee ++ (wAM cy ym0 mm_4 ++ wAQ cy yq0 qq_7)) rfl dL_enter_59 (fun H locs hP hD hS => ?_)
  refine lv_bipush (v := 6) hx hb dL_enter_60 (by decide) ?_
  refine lv_aload hx hb dL_enter_62 (lv_at hl 5 rfl) ?_
  refine lv_iconst (v := 5) hx hb dL_enter_64 (by decide) ?_
  obtain ⟨hi_8, hf⟩ := ckI_el hf
  refine va_iald hx hb hK hP 2 1 rfl rfl hi_8 dL_enter_65 ?_
  refine lv_bipush (v := 10) hx hb dL_enter_66 (by decide) ?_
  refine lv_irem hx hb dL_enter_68 (by decide) ?_
  refine lv_imul hx hb dL_enter_69 ?_
  obtain ⟨x7_9, ex7_9, hf⟩ := lt_el hf
  refine x_topi ex7_9 ?_
  refine lv_istore (lv' := [(7, .int x7_9), (0, .int p1), (1, .int p2), (2, .int p3), (3, .int p4), (4, .ref ym0), (5, .ref yq0), (6, .ref ye0)]) hx hb dL_enter_70 hl (by decide) rfl (fun ls hl => ?_)
  refine lv_aload hx hb dL_enter_72 (lv_at hl 7 rfl) ?_
  refine lv_iload hx hb dL_enter_74 (lv_at hl 0 rfl) ?_
  refine lv_aload hx hb dL_enter_76 (lv_at hl 6 rfl) ?_
  refine lv_iconst (v := 0) hx hb dL_enter_78 (by decide) ?_
  obtain ⟨hi_10, hf⟩ := ckI_el hf
  refine va_iald hx hb hK hP 2 1 rfl rfl hi_10 dL_enter_79 ?_
  obtain ⟨hi_11, hf⟩ := ckI_el hf
  obtain ⟨ee_12, eee_12, hf⟩ := lt_el hf
  refine x_iast hx hb hK hP hD hS 0 rfl hi_11 eee_12 (w' := wAE cy ye0 ee_12 ++ (wAM cy ym0 mm_4 ++ wAQ cy yq0 qq_7)) rfl dL_enter_80 (fun H locs hP hD hS => ?_)
  refine lv_aload hx hb dL_enter_81 (lv_at hl 7 rfl) ?_
  refine lv_iload hx hb dL_enter_83 (lv_at hl 0 rfl) ?_
  refine lv_iconst (v := 1) hx hb dL_enter_85 (by decide) ?_
  refine lv_iadd hx hb dL_enter_86 ?_
  refine lv_iload_n hx hb dL_enter_87 rfl (lv_at hl 1 rfl) ?_
  obtain ⟨hi_13, hf⟩ := ckI_el hf
  obtain ⟨ee_14, eee_14, hf⟩ := lt_el hf
  refine x_iast hx hb hK hP hD hS 0 rfl hi_13 eee_14 (w' := wAE cy ye0 ee_14 ++ (wAM cy ym0 mm_4 ++ wAQ cy yq0 qq_7)) rfl dL_enter_88 (fun H locs hP hD hS => ?_)
  refine lv_aload hx hb dL_enter_89 (lv_at hl 7 rfl) ?_
  refine lv_iload hx hb dL_enter_91 (lv_at hl 0 rfl) ?_
  refine lv_iconst (v := 2) hx hb dL_enter_93 (by decide) ?_
  refine lv_iadd hx hb dL_enter_94 ?_
  refine lv_iload_n hx hb dL_enter_95 rfl (lv_at hl 2 rfl) ?_
  obtain ⟨hi_15, hf⟩ := ckI_el hf
  obtain ⟨ee_16, eee_16, hf⟩ := lt_el hf
  refine x_iast hx hb hK hP hD hS 0 rfl hi_15 eee_16 (w' := wAE cy ye0 ee_16 ++ (wAM cy ym0 mm_4 ++ wAQ cy yq0 qq_7)) rfl dL_enter_96 (fun H locs hP hD hS => ?_)
  refine lv_aload hx hb dL_enter_97 (lv_at hl 7 rfl) ?_
  refine lv_iload hx hb dL_enter_99 (lv_at hl 0 rfl) ?_
  refine lv_iconst (v := 3) hx hb dL_enter_101 (by decide) ?_
  refine lv_iadd hx hb dL_enter_102 ?_
  refine lv_iload_n hx hb dL_enter_103 rfl (lv_at hl 3 rfl) ?_
  obtain ⟨hi_17, hf⟩ := ckI_el hf
  obtain ⟨ee_18, eee_18, hf⟩ := lt_el hf
  refine x_iast hx hb hK hP hD hS 0 rfl hi_17 eee_18 (w' := wAE cy ye0 ee_18 ++ (wAM cy ym0 mm_4 ++ wAQ cy yq0 qq_7)) rfl dL_enter_104 (fun H locs hP hD hS => ?_)
  refine lv_aload hx hb dL_enter_105 (lv_at hl 7 rfl) ?_
  refine lv_iload hx hb dL_enter_107 (lv_at hl 0 rfl) ?_
  refine lv_iconst (v := 4) hx hb dL_enter_109 (by decide) ?_
  refine lv_iadd hx hb dL_enter_110 ?_
  refine lv_iload_n hx hb dL_enter_111 rfl (lv_at hl 4 rfl) ?_
  obtain ⟨hi_19, hf⟩ := ckI_el hf
  obtain ⟨ee_20, eee_20, hf⟩ := lt_el hf
  refine x_iast hx hb hK hP hD hS 0 rfl hi_19 eee_20 (w' := wAE cy ye0 ee_20 ++ (wAM cy ym0 mm_4 ++ wAQ cy yq0 qq_7)) rfl dL_enter_112 (fun H locs hP hD hS => ?_)
  refine lv_aload hx hb dL_enter_113 (lv_at hl 7 rfl) ?_
  refine lv_iload hx hb dL_enter_115 (lv_at hl 0 rfl) ?_
  refine lv_iconst (v := 5) hx hb dL_enter_117 (by decide) ?_
  refine lv_iadd hx hb dL_enter_118 ?_
  refine lv_aload hx hb dL_enter_119 (lv_at hl 5 rfl) ?_
  refine lv_bipush (v := 24) hx hb dL_enter_121 (by decide) ?_
  obtain ⟨hi_21, hf⟩ := ckI_el hf
  refine va_lald hx hb hK hP 1 2 rfl rfl hi_21 dL_enter_123 ?_
  refine lv_l2i (v := (mm_4 (24 : Int32).toNatClampNeg).toInt32) hx hb dL_enter_124 rfl ?_
  obtain ⟨hi_22, hf⟩ := ckI_el hf
  obtain ⟨ee_23, eee_23, hf⟩ := lt_el hf
  refine x_iast hx hb hK hP hD hS 0 rfl hi_22 eee_23 (w' := wAE cy ye0 ee_23 ++ (wAM cy ym0 mm_4 ++ wAQ cy yq0 qq_7)) rfl dL_enter_125 (fun H locs hP hD hS => ?_)
  refine lv_aload hx hb dL_enter_126 (lv_at hl 6 rfl) ?_
  refine lv_bipush (v := 10) hx hb dL_enter_128 (by decide) ?_
  refine lv_iload_n hx hb dL_enter_130 rfl (lv_at hl 2 rfl) ?_
  refine lv_iadd hx hb dL_enter_131 ?_
  refine lv_aload hx hb dL_enter_132 (lv_at hl 6 rfl) ?_
  refine lv_iconst (v := 0) hx hb dL_enter_134 (by decide) ?_
  obtain ⟨hi_24, hf⟩ := ckI_el hf
  refine va_iald hx hb hK hP 2 1 rfl rfl hi_24 dL_enter_135 ?_
  obtain ⟨hi_25, hf⟩ := ckI_el hf
  obtain ⟨qq_26, eqq_26, hf⟩ := lt_el hf
  refine x_iast hx hb hK hP hD hS 2 rfl hi_25 eqq_26 (w' := wAE cy ye0 ee_23 ++ (wAM cy ym0 mm_4 ++ wAQ cy yq0 qq_26)) rfl dL_enter_136 (fun H locs hP hD hS => ?_)
  refine lv_iload_n hx hb dL_enter_137 rfl (lv_at hl 3 rfl) ?_
  refine lv_if_le (tgt := 152) hx hb dL_enter_138 (by decide) (fun c_27 => ?_) (fun c_27 => ?_)
  · have hf := x_t c_27 hf
    have hf := Option.some.inj hf
    cases hf
    exact x_vret hx hb hr hlocks hK hP hD hS dL_enter_152
  · have hf := x_f c_27 hf
    refine lv_aload hx hb dL_enter_141 (lv_at hl 6 rfl) ?_
    refine lv_bipush (v := 10) hx hb dL_enter_143 (by decide) ?_
    refine lv_iload_n hx hb dL_enter_145 rfl (lv_at hl 3 rfl) ?_
    refine lv_iadd hx hb dL_enter_146 ?_
    refine lv_aload hx hb dL_enter_147 (lv_at hl 6 rfl) ?_
    refine lv_iconst (v := 0) hx hb dL_enter_149 (by decide) ?_
    obtain ⟨hi_28, hf⟩ := ckI_el hf
    refine va_iald hx hb hK hP 2 1 rfl rfl hi_28 dL_enter_150 ?_
    obtain ⟨hi_29, hf⟩ := ckI_el hf
    obtain ⟨qq_30, eqq_30, hf⟩ := lt_el hf
    refine x_iast hx hb hK hP hD hS 2 rfl hi_29 eqq_30 (w' := wAE cy ye0 ee_23 ++ (wAM cy ym0 mm_4 ++ wAQ cy yq0 qq_30)) rfl dL_enter_151 (fun H locs hP hD hS => ?_)
    have hf := Option.some.inj hf
    cases hf
    exact x_vret hx hb hr hlocks hK hP hD hS dL_enter_152
theorem kdL_interest : yL_interest.cls ≠ "java/lang/invoke/MethodHandle" ∧ yL_interest.cls ≠ "java/lang/invoke/VarHandle" ∧ (parseMethodDescriptor yL_interest.desc).map (fun d => d.parameters.length) = some 4 := by decide +kernel
def rmL_interest : Room := { frames := 0, cells := 0, slots := 0, locals := 0 }
set_option maxHeartbeats 4000000 in
set_option maxRecDepth 100000 in
theorem mL_interest (l : Launch) (D : va_G) (cy : Nat → ClassId) (ym0 yq0 : Nat) (mm : Nat → Int64) (qq : Nat → Int32) (p1 : Int32) (p2 : Int32) (r : Int64) (mm' : Nat → Int64) (hf : fL_interest mm qq p1 p2 = some (r, mm')) : xMl l D cy yL_interest aL_interest rmL_interest ([.int p1, .int p2, .ref ym0, .ref yq0] : List Value) (wAM cy ym0 mm ++ wAQ cy yq0 qq) (wAM cy ym0 mm' ++ wAQ cy yq0 qq) r := by
  intro hz
  refine x_start (Qc := xQl D cy _ r) (cc := cL_interest) (maxL := 8) (ret := (some .long)) (by decide) rfl (Nat.le_of_ble_eq_true rfl) (lv := [(0, .int p1), (1, .int p2), (2, .ref ym0), (3, .ref yq0)]) rfl ?_
  intro p e s m below meth c ls A hx hb hr hml hown hts hlocks hK hP hD hS hA hN hl
  have hown : s.vm.findClass RL = some m.cls := hown
  have hbg : ∀ w ∈ wsL_law, w ∈ aL_interest := fun w h => List.mem_cons_of_mem _ h
  have wd0 : (Cond.constantLong RL 28 (3650000)).before ([.int p1, .int p2, .ref ym0, .ref yq0] : List Value).toArray s = true := hts _ (List.mem_cons_of_mem _ wm_14_1)
  have wd1 : (Cond.constantLong RL 30 (1000000000)).before ([.int p1, .int p2, .ref ym0, .ref yq0] : List Value).toArray s = true := hts _ (List.mem_cons_of_mem _ wm_0_9)
  have hfL_interest_J88 : ∀ (mmj : Nat → Int64) (z0j : Int32) (z1j : Int32) (s0j : Int64) (H : Heap) (locs : List Loc) (ls : Array Slot), fL_interest_J88 mmj qq z0j z1j s0j = some (r, mm') → va_P D vwCl (wAM cy ym0 mmj ++ wAQ cy yq0 qq) H → va_D A (wAM cy ym0 mmj ++ wAQ cy yq0 qq) → va_S A s.heap H locs → lv_has ls 8 [(0, .int z0j), (1, .int z1j), (2, .ref ym0), (3, .ref yq0)] → W p l e rmL_interest s m ([.int p1, .int p2, .ref ym0, .ref yq0] : List Value).toArray below meth c H locs 0 0 (MQ below (xQl D cy (wAM cy ym0 mm' ++ wAQ cy yq0 qq) r A) ([.int p1, .int p2, .ref ym0, .ref yq0] : List Value).toArray s 0 0 A) (F0 m 88 ls [.long s0j]) := by
    intro mmj z0j z1j s0j H locs ls hf hP hD hS hl
    unfold fL_interest_J88 at hf
    refine lv_lstore (lv' := [(6, .long s0j), (0, .int z0j), (1, .int z1j), (2, .ref ym0), (3, .ref yq0)]) hx hb dL_interest_88 hl (by decide) rfl (fun ls hl => ?_)
    refine lv_iload_n hx hb dL_interest_90 rfl (lv_at hl 2 rfl) ?_
    refine lv_bipush (v := 30) hx hb dL_interest_91 (by decide) ?_
    refine lv_irem hx hb dL_interest_93 (by decide) ?_
    refine lv_if_gt (tgt := 114) hx hb dL_interest_94 (by decide) (fun c_36 => ?_) (fun c_36 => ?_)
    · have hf := x_t c_36 hf
      refine lv_lconst (v := 0) hx hb dL_interest_114 (by decide) ?_
      have hf := Option.some.inj hf
      cases hf
      exact x_lret hx hb hr hlocks hK hP hD hS dL_interest_115
    · have hf := x_f c_36 hf
      refine lv_lload hx hb dL_interest_97 (lv_at hl 0 rfl) ?_
      refine lv_lconst (v := 1) hx hb dL_interest_99 (by decide) ?_
      refine W.lcmp hx hb dL_interest_100 ?_
      refine lv_if_lt (tgt := 114) hx hb dL_interest_101 (by decide) (fun c_37 => ?_) (fun c_37 => ?_)
      · have c_37 := (lg_cmp_lt _ _).mp c_37
        have hf := x_t c_37 hf
        refine lv_lconst (v := 0) hx hb dL_interest_114 (by decide) ?_
        have hf := Option.some.inj hf
        cases hf
        exact x_lret hx hb hr hlocks hK hP hD hS dL_interest_115
      · have c_37 := fun q => c_37 ((lg_cmp_lt _ _).mpr q)
        have hf := x_f c_37 hf
        refine lv_lload hx hb dL_interest_104 (lv_at hl 0 rfl) ?_
        refine lv_aload_n hx hb dL_interest_106 rfl (lv_at hl 4 rfl) ?_
        refine lv_iconst (v := 4) hx hb dL_interest_107 (by decide) ?_
        obtain ⟨hi_38, hf⟩ := ckI_el hf
        refine va_iald hx hb hK hP 1 1 rfl rfl hi_38 dL_interest_108 ?_
        refine lv_i2l (v := (qq (4 : Int32).toNatClampNeg).toInt64) hx hb dL_interest_109 rfl ?_
        refine W.lcmp hx hb dL_interest_110 ?_
        refine lv_if_ge (tgt := 116) hx hb dL_interest_111 (by decide) (fun c_39 => ?_) (fun c_39 => ?_)
        · have c_39 := (lg_cmp_ge _ _).mp c_39
          have hf := x_t c_39 hf
          refine lv_aload_n hx hb dL_interest_116 rfl (lv_at hl 3 rfl) ?_
          refine lv_iload_n hx hb dL_interest_117 rfl (lv_at hl 1 rfl) ?_
          refine lv_dup2_11 hx hb dL_interest_118 rfl rfl ?_
          obtain ⟨hi_40, hf⟩ := ckI_el hf
          refine va_lald hx hb hK hP 0 2 rfl rfl hi_40 dL_interest_119 ?_
          refine lv_lload hx hb dL_interest_120 (lv_at hl 0 rfl) ?_
          refine lv_ladd hx hb dL_interest_122 ?_
          obtain ⟨hi_41, hf⟩ := ckI_el hf
          obtain ⟨mm_42, emm_42, hf⟩ := lt_el hf
          refine x_last hx hb hK hP hD hS 0 rfl hi_41 emm_42 (w' := wAM cy ym0 mm_42 ++ wAQ cy yq0 qq) rfl dL_interest_123 (fun H locs hP hD hS => ?_)
          refine lv_aload_n hx hb dL_interest_124 rfl (lv_at hl 3 rfl) ?_
          refine lv_bipush (v := 10) hx hb dL_interest_125 (by decide) ?_
          refine lv_iload_n hx hb dL_interest_127 rfl (lv_at hl 1 rfl) ?_
          refine lv_iadd hx hb dL_interest_128 ?_
          refine lv_dup2_11 hx hb dL_interest_129 rfl rfl ?_
          obtain ⟨hi_43, hf⟩ := ckI_el hf
          refine va_lald hx hb hK hP 0 2 rfl rfl hi_43 dL_interest_130 ?_
          refine lv_ldc2 hx hb hown wd0 dL_interest_131 ?_
          refine lv_lload hx hb dL_interest_134 (lv_at hl 0 rfl) ?_
          refine lv_lmul hx hb dL_interest_136 ?_
          refine lv_lsub hx hb dL_interest_137 ?_
          obtain ⟨hi_44, hf⟩ := ckI_el hf
          obtain ⟨mm_45, emm_45, hf⟩ := lt_el hf
          refine x_last hx hb hK hP hD hS 0 rfl hi_44 emm_45 (w' := wAM cy ym0 mm_45 ++ wAQ cy yq0 qq) rfl dL_interest_138 (fun H locs hP hD hS => ?_)
          refine lv_lload hx hb dL_interest_139 (lv_at hl 0 rfl) ?_
          have hf := Option.some.inj hf
          cases hf
          exact x_lret hx hb hr hlocks hK hP hD hS dL_interest_141
        · have c_39 := fun q => c_39 ((lg_cmp_ge _ _).mpr q)
          have hf := x_f c_39 hf
          refine lv_lconst (v := 0) hx hb dL_interest_114 (by decide) ?_
          have hf := Option.some.inj hf
          cases hf
          exact x_lret hx hb hr hlocks hK hP hD hS dL_interest_115
  have hfL_interest_J21 : ∀ (mmj : Nat → Int64) (z0j : Int32) (z1j : Int32) (s0j : Int64) (H : Heap) (locs : List Loc) (ls : Array Slot), fL_interest_J21 mmj qq z0j z1j s0j = some (r, mm') → va_P D vwCl (wAM cy ym0 mmj ++ wAQ cy yq0 qq) H → va_D A (wAM cy ym0 mmj ++ wAQ cy yq0 qq) → va_S A s.heap H locs → lv_has ls 8 [(0, .int z0j), (1, .int z1j), (2, .ref ym0), (3, .ref yq0)] → W p l e rmL_interest s m ([.int p1, .int p2, .ref ym0, .ref yq0] : List Value).toArray below meth c H locs 0 0 (MQ below (xQl D cy (wAM cy ym0 mm' ++ wAQ cy yq0 qq) r A) ([.int p1, .int p2, .ref ym0, .ref yq0] : List Value).toArray s 0 0 A) (F0 m 21 ls [.long s0j]) := by
    intro mmj z0j z1j s0j H locs ls hf hP hD hS hl
    unfold fL_interest_J21 at hf
    refine lv_lstore (lv' := [(4, .long s0j), (0, .int z0j), (1, .int z1j), (2, .ref ym0), (3, .ref yq0)]) hx hb dL_interest_21 hl (by decide) rfl (fun ls hl => ?_)
    refine lv_aload_n hx hb dL_interest_23 rfl (lv_at hl 3 rfl) ?_
    refine lv_bipush (v := 10) hx hb dL_interest_24 (by decide) ?_
    refine lv_iload_n hx hb dL_interest_26 rfl (lv_at hl 1 rfl) ?_
    refine lv_iadd hx hb dL_interest_27 ?_
    refine lv_dup2_11 hx hb dL_interest_28 rfl rfl ?_
    obtain ⟨hi_26, hf⟩ := ckI_el hf
    refine va_lald hx hb hK hP 0 2 rfl rfl hi_26 dL_interest_29 ?_
    refine lv_aload_n hx hb dL_interest_30 rfl (lv_at hl 4 rfl) ?_
    refine lv_iconst (v := 2) hx hb dL_interest_31 (by decide) ?_
    obtain ⟨hi_27, hf⟩ := ckI_el hf
    refine va_iald hx hb hK hP 1 1 rfl rfl hi_27 dL_interest_32 ?_
    refine lv_i2l (v := (qq (2 : Int32).toNatClampNeg).toInt64) hx hb dL_interest_33 rfl ?_
    refine lv_lload hx hb dL_interest_34 (lv_at hl 0 rfl) ?_
    refine lv_lmul hx hb dL_interest_36 ?_
    refine lv_aload_n hx hb dL_interest_37 rfl (lv_at hl 4 rfl) ?_
    refine lv_iconst (v := 3) hx hb dL_interest_38 (by decide) ?_
    obtain ⟨hi_28, hf⟩ := ckI_el hf
    refine va_iald hx hb hK hP 1 1 rfl rfl hi_28 dL_interest_39 ?_
    refine lv_i2l (v := (qq (3 : Int32).toNatClampNeg).toInt64) hx hb dL_interest_40 rfl ?_
    refine lv_aload_n hx hb dL_interest_41 rfl (lv_at hl 3 rfl) ?_
    refine lv_iload_n hx hb dL_interest_42 rfl (lv_at hl 1 rfl) ?_
    obtain ⟨hi_29, hf⟩ := ckI_el hf
    refine va_lald hx hb hK hP 0 2 rfl rfl hi_29 dL_interest_43 ?_
    refine lv_lload hx hb dL_interest_44 (lv_at hl 0 rfl) ?_
    refine lv_lsub hx hb dL_interest_46 ?_
    refine lv_lmul hx hb dL_interest_47 ?_
    refine lv_ladd hx hb dL_interest_48 ?_
    refine lv_ladd hx hb dL_interest_49 ?_
    obtain ⟨hi_30, hf⟩ := ckI_el hf
    obtain ⟨mm_31, emm_31, hf⟩ := lt_el hf
    refine x_last hx hb hK hP hD hS 0 rfl hi_30 emm_31 (w' := wAM cy ym0 mm_31 ++ wAQ cy yq0 qq) rfl dL_interest_50 (fun H locs hP hD hS => ?_)
    refine lv_aload_n hx hb dL_interest_51 rfl (lv_at hl 3 rfl) ?_
    refine lv_bipush (v := 10) hx hb dL_interest_52 (by decide) ?_
    refine lv_iload_n hx hb dL_interest_54 rfl (lv_at hl 1 rfl) ?_
    refine lv_iadd hx hb dL_interest_55 ?_
    obtain ⟨hi_32, hf⟩ := ckI_el hf
    refine va_lald hx hb hK hP 0 2 rfl rfl hi_32 dL_interest_56 ?_
    refine lv_ldc2 hx hb hown wd0 dL_interest_57 ?_
    refine lv_ldiv hx hb dL_interest_60 (by decide) ?_
    obtain ⟨x6_33, ex6_33, hf⟩ := lt_el hf
    refine x_topl ex6_33 ?_
    refine lv_lstore (lv' := [(6, .long x6_33), (4, .long s0j), (0, .int z0j), (1, .int z1j), (2, .ref ym0), (3, .ref yq0)]) hx hb dL_interest_61 hl (by decide) rfl (fun ls hl => ?_)
    refine lv_lload hx hb dL_interest_63 (lv_at hl 0 rfl) ?_
    refine lv_ldc2 hx hb hown wd1 dL_interest_65 ?_
    refine lv_aload_n hx hb dL_interest_68 rfl (lv_at hl 4 rfl) ?_
    refine lv_iload_n hx hb dL_interest_69 rfl (lv_at hl 2 rfl) ?_
    obtain ⟨hi_34, hf⟩ := ckI_el hf
    refine va_lald hx hb hK hP 0 2 rfl rfl hi_34 dL_interest_70 ?_
    refine lv_lsub hx hb dL_interest_71 ?_
    refine W.lcmp hx hb dL_interest_72 ?_
    refine lv_if_le (tgt := 86) hx hb dL_interest_73 (by decide) (fun c_35 => ?_) (fun c_35 => ?_)
    · have c_35 := (lg_cmp_le _ _).mp c_35
      have hf := x_t c_35 hf
      refine lv_lload hx hb dL_interest_86 (lv_at hl 0 rfl) ?_
      exact hfL_interest_J88 mm_31 z0j z1j x6_33 _ _ _ hf hP hD hS (lv_sub hl [2, 3, 4, 5] rfl)
    · have c_35 := fun q => c_35 ((lg_cmp_le _ _).mpr q)
      have hf := x_f c_35 hf
      refine lv_ldc2 hx hb hown wd1 dL_interest_76 ?_
      refine lv_aload_n hx hb dL_interest_79 rfl (lv_at hl 4 rfl) ?_
      refine lv_iload_n hx hb dL_interest_80 rfl (lv_at hl 2 rfl) ?_
      obtain ⟨hi_46, hf⟩ := ckI_el hf
      refine va_lald hx hb hK hP 0 2 rfl rfl hi_46 dL_interest_81 ?_
      refine lv_lsub hx hb dL_interest_82 ?_
      refine lv_goto (tgt := 88) hx hb dL_interest_83 (by decide) ?_
      exact hfL_interest_J88 mm_31 z0j z1j (1000000000 - (mm_31 z0j.toNatClampNeg)) _ _ _ hf hP hD hS (lv_sub hl [2, 3, 4, 5] rfl)
  unfold fL_interest at hf
  refine lv_aload_n hx hb dL_interest_0 rfl (lv_at hl 2 rfl) ?_
  refine lv_iload_n hx hb dL_interest_1 rfl (lv_at hl 0 rfl) ?_
  obtain ⟨hi_1, hf⟩ := ckI_el hf
  refine va_lald hx hb hK hP 0 2 rfl rfl hi_1 dL_interest_2 ?_
  refine lv_aload_n hx hb dL_interest_3 rfl (lv_at hl 3 rfl) ?_
  refine lv_iconst (v := 1) hx hb dL_interest_4 (by decide) ?_
  obtain ⟨hi_2, hf⟩ := ckI_el hf
  refine va_iald hx hb hK hP 1 1 rfl rfl hi_2 dL_interest_5 ?_
  refine lv_i2l (v := (qq (1 : Int32).toNatClampNeg).toInt64) hx hb dL_interest_6 rfl ?_
  refine W.lcmp hx hb dL_interest_7 ?_
  refine lv_if_le (tgt := 18) hx hb dL_interest_8 (by decide) (fun c_3 => ?_) (fun c_3 => ?_)
  · have c_3 := (lg_cmp_le _ _).mp c_3
    have hf := x_t c_3 hf
    refine lv_aload_n hx hb dL_interest_18 rfl (lv_at hl 2 rfl) ?_
    refine lv_iload_n hx hb dL_interest_19 rfl (lv_at hl 0 rfl) ?_
    obtain ⟨hi_4, hf⟩ := ckI_el hf
    refine va_lald hx hb hK hP 0 2 rfl rfl hi_4 dL_interest_20 ?_
    exact hfL_interest_J21 mm p1 p2 (mm p1.toNatClampNeg) _ _ _ hf hP hD hS (lv_sub hl [0, 1, 2, 3] rfl)
  · have c_3 := fun q => c_3 ((lg_cmp_le _ _).mpr q)
    have hf := x_f c_3 hf
    refine lv_aload_n hx hb dL_interest_11 rfl (lv_at hl 3 rfl) ?_
    refine lv_iconst (v := 1) hx hb dL_interest_12 (by decide) ?_
    obtain ⟨hi_47, hf⟩ := ckI_el hf
    refine va_iald hx hb hK hP 1 1 rfl rfl hi_47 dL_interest_13 ?_
    refine lv_i2l (v := (qq (1 : Int32).toNatClampNeg).toInt64) hx hb dL_interest_14 rfl ?_
    refine lv_goto (tgt := 21) hx hb dL_interest_15 (by decide) ?_
    exact hfL_interest_J21 mm p1 p2 ((qq (1 : Int32).toNatClampNeg).toInt64) _ _ _ hf hP hD hS (lv_sub hl [0, 1, 2, 3] rfl)
theorem kdL_pass : yL_pass.cls ≠ "java/lang/invoke/MethodHandle" ∧ yL_pass.cls ≠ "java/lang/invoke/VarHandle" ∧ (parseMethodDescriptor yL_pass.desc).map (fun d => d.parameters.length) = some 5 := by decide +kernel
def rmL_pass : Room := { frames := 1, cells := 0, slots := 0, locals := 27 }
set_option maxHeartbeats 4000000 in
set_option maxRecDepth 100000 in
theorem mL_pass (l : Launch) (D : va_G) (cy : Nat → ClassId) (ye0 ym0 yq0 yh0 : Nat) (ee : Nat → Int32) (mm : Nat → Int64) (qq : Nat → Int32) (hh : Nat → Int32) (p1 : Int32) (r : Int64) (ee' : Nat → Int32) (mm' : Nat → Int64) (qq' : Nat → Int32) (hh' : Nat → Int32) (hf : fL_pass ee mm qq hh p1 = some (r, ee', mm', qq', hh')) : xMl l D cy yL_pass aL_pass rmL_pass ([.int p1, .ref ym0, .ref yq0, .ref yh0, .ref ye0] : List Value) (wAE cy ye0 ee ++ (wAM cy ym0 mm ++ (wAQ cy yq0 qq ++ wAH cy yh0 hh))) (wAE cy ye0 ee' ++ (wAM cy ym0 mm' ++ (wAQ cy yq0 qq' ++ wAH cy yh0 hh'))) r := by
  intro hz
  refine x_start (Qc := xQl D cy _ r) (cc := cL_pass) (maxL := 11) (ret := (some .long)) (by decide) rfl (Nat.le_of_ble_eq_true rfl) (lv := [(0, .int p1), (1, .ref ym0), (2, .ref yq0), (3, .ref yh0), (4, .ref ye0)]) rfl ?_
  intro p e s m below meth c ls A hx hb hr hml hown hts hlocks hK hP hD hS hA hN hl
  have hown : s.vm.findClass RL = some m.cls := hown
  have hbg : ∀ w ∈ wsL_law, w ∈ aL_pass := fun w h => List.mem_cons_of_mem _ h
  unfold fL_pass at hf
  refine lv_lconst (v := 0) hx hb dL_pass_0 (by decide) ?_
  refine lv_lstore (lv' := [(5, .long 0), (0, .int p1), (1, .ref ym0), (2, .ref yq0), (3, .ref yh0), (4, .ref ye0)]) hx hb dL_pass_1 hl (by decide) rfl (fun ls hl => ?_)
  refine lv_iconst (v := 0) hx hb dL_pass_3 (by decide) ?_
  refine lv_istore (lv' := [(7, .int 0), (5, .long 0), (0, .int p1), (1, .ref ym0), (2, .ref yq0), (3, .ref yh0), (4, .ref ye0)]) hx hb dL_pass_4 hl (by decide) rfl (fun ls hl => ?_)
  have hL_6 : ∀ (n : Nat) (ee_41 : Nat → Int32) (mm_42 : Nat → Int64) (qq_43 : Nat → Int32) (hh_44 : Nat → Int32) (z5_45 : Int64) (z7_46 : Int32) (o : (Nat → Int32) × (Nat → Int64) × (Nat → Int32) × (Nat → Int32) × Int64) (H : Heap) (locs : List Loc) (ls : Array Slot), fL_pass_L6 p1 n ee_41 mm_42 qq_43 hh_44 z5_45 z7_46 = some o → va_P D vwCl (wAE cy ye0 ee_41 ++ (wAM cy ym0 mm_42 ++ (wAQ cy yq0 qq_43 ++ wAH cy yh0 hh_44))) H → va_D A (wAE cy ye0 ee_41 ++ (wAM cy ym0 mm_42 ++ (wAQ cy yq0 qq_43 ++ wAH cy yh0 hh_44))) → va_S A s.heap H locs → lv_has ls 11 [(0, .int p1), (1, .ref ym0), (2, .ref yq0), (3, .ref yh0), (4, .ref ye0), (5, .long z5_45), (7, .int z7_46)] → True → ((∀ (ee_47 : Nat → Int32) (mm_48 : Nat → Int64) (qq_49 : Nat → Int32) (hh_50 : Nat → Int32) (x5_51 : Int64) , o = (ee_47, mm_48, qq_49, hh_50, x5_51) → ∀ (H : Heap) (locs : List Loc) (ls : Array Slot), va_P D vwCl (wAE cy ye0 ee_47 ++ (wAM cy ym0 mm_48 ++ (wAQ cy yq0 qq_49 ++ wAH cy yh0 hh_50))) H → va_D A (wAE cy ye0 ee_47 ++ (wAM cy ym0 mm_48 ++ (wAQ cy yq0 qq_49 ++ wAH cy yh0 hh_50))) → va_S A s.heap H locs → lv_has ls 11 [(1, .ref ym0), (5, .long x5_51)] →  W p l e rmL_pass s m ([.int p1, .ref ym0, .ref yq0, .ref yh0, .ref ye0] : List Value).toArray below meth c H locs 0 0 (MQ below (xQl D cy (wAE cy ye0 ee' ++ (wAM cy ym0 mm' ++ (wAQ cy yq0 qq' ++ wAH cy yh0 hh'))) r A) ([.int p1, .ref ym0, .ref yq0, .ref yh0, .ref ye0] : List Value).toArray s 0 0 A) (F0 m 134 ls []))) → W p l e rmL_pass s m ([.int p1, .ref ym0, .ref yq0, .ref yh0, .ref ye0] : List Value).toArray below meth c H locs 0 0 (MQ below (xQl D cy (wAE cy ye0 ee' ++ (wAM cy ym0 mm' ++ (wAQ cy yq0 qq' ++ wAH cy yh0 hh'))) r A) ([.int p1, .ref ym0, .ref yq0, .ref yh0, .ref ye0] : List Value).toArray s 0 0 A) (F0 m 6 ls []) := by
    intro n
    induction n with
    | zero =>
      intro ee_41 mm_42 qq_43 hh_44 z5_45 z7_46 o_6 H locs ls hf
      rw [fL_pass_L6] at hf
      cases hf
    | succ n ih =>
      intro ee_41 mm_42 qq_43 hh_44 z5_45 z7_46 o_6 H locs ls hf hP hD hS hl hr_6 kx_6
      rw [fL_pass_L6] at hf
      refine lv_iload hx hb dL_pass_6 (lv_at hl 6 rfl) ?_
      refine lv_iload_n hx hb dL_pass_8 rfl (lv_at hl 0 rfl) ?_
      refine lv_icmp_ge (tgt := 134) hx hb dL_pass_9 (by decide) (fun c_52 => ?_) (fun c_52 => ?_)
      · have hf := x_t c_52 hf
        exact kx_6 ee_41 mm_42 qq_43 hh_44 z5_45 (Option.some.inj hf).symm _ _ _ hP hD hS (lv_sub hl [1, 5] rfl)
      · have hf := x_f c_52 hf
        refine lv_aload_n hx hb dL_pass_12 rfl (lv_at hl 2 rfl) ?_
        refine lv_iconst (v := 0) hx hb dL_pass_13 (by decide) ?_
        refine lv_dup2_11 hx hb dL_pass_14 rfl rfl ?_
        obtain ⟨hi_53, hf⟩ := ckI_el hf
        refine va_iald hx hb hK hP 2 1 rfl rfl hi_53 dL_pass_15 ?_
        refine lv_iconst (v := 1) hx hb dL_pass_16 (by decide) ?_
        refine lv_iadd hx hb dL_pass_17 ?_
        obtain ⟨hi_54, hf⟩ := ckI_el hf
        obtain ⟨qq_55, eqq_55, hf⟩ := lt_el hf
        refine x_iast hx hb hK hP hD hS 2 rfl hi_54 eqq_55 (w' := wAE cy ye0 ee_41 ++ (wAM cy ym0 mm_42 ++ (wAQ cy yq0 qq_55 ++ wAH cy yh0 hh_44))) rfl dL_pass_18 (fun H locs hP hD hS => ?_)
        refine lv_iconst (v := 1) hx hb dL_pass_19 (by decide) ?_
        refine lv_istore (lv' := [(8, .int 1), (0, .int p1), (1, .ref ym0), (2, .ref yq0), (3, .ref yh0), (4, .ref ye0), (5, .long z5_45), (7, .int z7_46)]) hx hb dL_pass_20 hl (by decide) rfl (fun ls hl => ?_)
        have hL_22 : ∀ (n : Nat) (ee_73 : Nat → Int32) (mm_74 : Nat → Int64) (qq_75 : Nat → Int32) (z5_76 : Int64) (z8_77 : Int32) (o : (Nat → Int32) × (Nat → Int64) × (Nat → Int32) × Int64) (H : Heap) (locs : List Loc) (ls : Array Slot), fL_pass_L22 p1 z7_46 n ee_73 mm_74 qq_75 z5_76 z8_77 = some o → va_P D vwCl (wAE cy ye0 ee_73 ++ (wAM cy ym0 mm_74 ++ (wAQ cy yq0 qq_75 ++ wAH cy yh0 hh_44))) H → va_D A (wAE cy ye0 ee_73 ++ (wAM cy ym0 mm_74 ++ (wAQ cy yq0 qq_75 ++ wAH cy yh0 hh_44))) → va_S A s.heap H locs → lv_has ls 11 [(0, .int p1), (1, .ref ym0), (2, .ref yq0), (3, .ref yh0), (4, .ref ye0), (5, .long z5_76), (7, .int z7_46), (8, .int z8_77)] → True → ((∀ (ee_78 : Nat → Int32) (mm_79 : Nat → Int64) (qq_80 : Nat → Int32) (x5_81 : Int64) , o = (ee_78, mm_79, qq_80, x5_81) → ∀ (H : Heap) (locs : List Loc) (ls : Array Slot), va_P D vwCl (wAE cy ye0 ee_78 ++ (wAM cy ym0 mm_79 ++ (wAQ cy yq0 qq_80 ++ wAH cy yh0 hh_44))) H → va_D A (wAE cy ye0 ee_78 ++ (wAM cy ym0 mm_79 ++ (wAQ cy yq0 qq_80 ++ wAH cy yh0 hh_44))) → va_S A s.heap H locs → lv_has ls 11 [(0, .int p1), (1, .ref ym0), (2, .ref yq0), (3, .ref yh0), (4, .ref ye0), (5, .long x5_81), (7, .int z7_46)] →  W p l e rmL_pass s m ([.int p1, .ref ym0, .ref yq0, .ref yh0, .ref ye0] : List Value).toArray below meth c H locs 0 0 (MQ below (xQl D cy (wAE cy ye0 ee' ++ (wAM cy ym0 mm' ++ (wAQ cy yq0 qq' ++ wAH cy yh0 hh'))) r A) ([.int p1, .ref ym0, .ref yq0, .ref yh0, .ref ye0] : List Value).toArray s 0 0 A) (F0 m 88 ls []))) → W p l e rmL_pass s m ([.int p1, .ref ym0, .ref yq0, .ref yh0, .ref ye0] : List Value).toArray below meth c H locs 0 0 (MQ below (xQl D cy (wAE cy ye0 ee' ++ (wAM cy ym0 mm' ++ (wAQ cy yq0 qq' ++ wAH cy yh0 hh'))) r A) ([.int p1, .ref ym0, .ref yq0, .ref yh0, .ref ye0] : List Value).toArray s 0 0 A) (F0 m 22 ls []) := by
          intro n
          induction n with
          | zero =>
            intro ee_73 mm_74 qq_75 z5_76 z8_77 o_22 H locs ls hf
            rw [fL_pass_L22] at hf
            cases hf
          | succ n ih =>
            intro ee_73 mm_74 qq_75 z5_76 z8_77 o_22 H locs ls hf hP hD hS hl hr_22 kx_22
            rw [fL_pass_L22] at hf
            refine lv_iload hx hb dL_pass_22 (lv_at hl 7 rfl) ?_
            refine lv_bipush (v := 7) hx hb dL_pass_24 (by decide) ?_
            refine lv_icmp_ge (tgt := 88) hx hb dL_pass_26 (by decide) (fun c_82 => ?_) (fun c_82 => ?_)
            · have hf := x_t c_82 hf
              exact kx_22 ee_73 mm_74 qq_75 z5_76 (Option.some.inj hf).symm _ _ _ hP hD hS (lv_sub hl [0, 1, 2, 3, 4, 5, 6] rfl)
            · have hf := x_f c_82 hf
              refine lv_aload_n hx hb dL_pass_29 rfl (lv_at hl 2 rfl) ?_
              refine lv_bipush (v := 10) hx hb dL_pass_30 (by decide) ?_
              refine lv_iload hx hb dL_pass_32 (lv_at hl 7 rfl) ?_
              refine lv_iadd hx hb dL_pass_34 ?_
              obtain ⟨hi_83, hf⟩ := ckI_el hf
              refine va_iald hx hb hK hP 2 1 rfl rfl hi_83 dL_pass_35 ?_
              refine lv_if_ge (tgt := 42) hx hb dL_pass_36 (by decide) (fun c_84 => ?_) (fun c_84 => ?_)
              · have hf := x_t c_84 hf
                refine lv_iload hx hb dL_pass_42 (lv_at hl 7 rfl) ?_
                refine lv_aload_n hx hb dL_pass_44 rfl (lv_at hl 2 rfl) ?_
                refine lv_iconst (v := 0) hx hb dL_pass_45 (by decide) ?_
                obtain ⟨hi_85, hf⟩ := ckI_el hf
                refine va_iald hx hb hK hP 2 1 rfl rfl hi_85 dL_pass_46 ?_
                refine lv_aload_n hx hb dL_pass_47 rfl (lv_at hl 1 rfl) ?_
                refine lv_aload_n hx hb dL_pass_48 rfl (lv_at hl 2 rfl) ?_
                obtain ⟨r_86, mm_87, h_88, hf⟩ := bd2_el hf
                refine x_callSl (As := [.int z8_77, .int (qq_75 (0 : Int32).toNatClampNeg), .ref ym0, .ref yq0]) (rest := []) ⟨hx, hb, hml, hown, hts⟩ (mL_interest l D cy ym0 yq0 mm_74 qq_75 z8_77 (qq_75 (0 : Int32).toNatClampNeg) r_86 mm_87 h_88) (va_cwS 4 hts (gcS_L_interest hbg wm_13_22) rfl rfl rfl kdL_interest ⟨Nat.le_of_ble_eq_true rfl, Nat.le_of_ble_eq_true rfl⟩) (w1 := wAE cy ye0 ee_73) (w2 := wAH cy yh0 hh_44) (w' := wAE cy ye0 ee_73 ++ (wAM cy ym0 mm_87 ++ (wAQ cy yq0 qq_75 ++ wAH cy yh0 hh_44))) (by simp only [List.append_assoc, List.append_nil, List.nil_append]) (by simp only [List.append_assoc, List.append_nil, List.nil_append]) hP hK hD hN hS hA rfl hl rfl (Nat.le_of_ble_eq_true rfl) dL_pass_49 ⟨Nat.zero_le _, Nat.zero_le _⟩ (fun H locs hP hD hS => ?_)
                refine lv_lstore (lv' := [(9, .long r_86), (0, .int p1), (1, .ref ym0), (2, .ref yq0), (3, .ref yh0), (4, .ref ye0), (5, .long z5_76), (7, .int z7_46), (8, .int z8_77)]) hx hb dL_pass_52 hl (by decide) rfl (fun ls hl => ?_)
                refine lv_lload hx hb dL_pass_54 (lv_at hl 0 rfl) ?_
                refine lv_lconst (v := 0) hx hb dL_pass_56 (by decide) ?_
                refine W.lcmp hx hb dL_pass_57 ?_
                refine lv_if_le (tgt := 75) hx hb dL_pass_58 (by decide) (fun c_89 => ?_) (fun c_89 => ?_)
                · have c_89 := (lg_cmp_le _ _).mp c_89
                  have hf := x_t c_89 hf
                  refine lv_lload hx hb dL_pass_75 (lv_at hl 6 rfl) ?_
                  refine lv_lload hx hb dL_pass_77 (lv_at hl 0 rfl) ?_
                  refine lv_ladd hx hb dL_pass_79 ?_
                  obtain ⟨x5_90, ex5_90, hf⟩ := lt_el hf
                  refine x_topl ex5_90 ?_
                  refine lv_lstore (lv' := [(5, .long x5_90), (9, .long r_86), (0, .int p1), (1, .ref ym0), (2, .ref yq0), (3, .ref yh0), (4, .ref ye0), (7, .int z7_46), (8, .int z8_77)]) hx hb dL_pass_80 hl (by decide) rfl (fun ls hl => ?_)
                  refine lv_iinc (v := (z8_77 + 1)) (lv' := [(8, .int (z8_77 + 1)), (5, .long x5_90), (9, .long r_86), (0, .int p1), (1, .ref ym0), (2, .ref yq0), (3, .ref yh0), (4, .ref ye0), (7, .int z7_46)]) hx hb dL_pass_82 hl (k := 8) rfl rfl (by decide) rfl (fun ls hl => ?_)
                  refine lv_goto (tgt := 22) hx hb dL_pass_85 (by decide) ?_
                  exact ih ee_73 mm_87 qq_75 x5_90 (z8_77 + 1) _ _ _ _ hf hP hD hS (lv_sub hl [3, 4, 5, 6, 7, 1, 8, 0] rfl) hr_22 kx_22
                · have c_89 := fun q => c_89 ((lg_cmp_le _ _).mpr q)
                  have hf := x_f c_89 hf
                  refine lv_iconst (v := 5) hx hb dL_pass_61 (by decide) ?_
                  refine lv_iload hx hb dL_pass_62 (lv_at hl 8 rfl) ?_
                  refine lv_iconst (v := 0) hx hb dL_pass_64 (by decide) ?_
                  refine lv_lload hx hb dL_pass_65 (lv_at hl 0 rfl) ?_
                  refine lv_l2i (v := r_86.toInt32) hx hb dL_pass_67 rfl ?_
                  refine lv_aload_n hx hb dL_pass_68 rfl (lv_at hl 2 rfl) ?_
                  refine lv_aload_n hx hb dL_pass_69 rfl (lv_at hl 3 rfl) ?_
                  refine lv_aload hx hb dL_pass_70 (lv_at hl 5 rfl) ?_
                  obtain ⟨ee_91, mm_92, qq_93, h_94, hf⟩ := bd3_el hf
                  refine x_callSv (As := [.int 5, .int z8_77, .int 0, .int r_86.toInt32, .ref ym0, .ref yq0, .ref ye0]) (rest := []) ⟨hx, hb, hml, hown, hts⟩ (mL_enter l D cy ye0 ym0 yq0 ee_73 mm_87 qq_75 5 z8_77 0 r_86.toInt32 ee_91 mm_92 qq_93 h_94) (va_cwS 7 hts (gcS_L_enter hbg wm_9_22) rfl rfl rfl kdL_enter ⟨Nat.le_of_ble_eq_true rfl, Nat.le_of_ble_eq_true rfl⟩) (w1 := []) (w2 := wAH cy yh0 hh_44) (w' := wAE cy ye0 ee_91 ++ (wAM cy ym0 mm_92 ++ (wAQ cy yq0 qq_93 ++ wAH cy yh0 hh_44))) (by simp only [List.append_assoc, List.append_nil, List.nil_append]) (by simp only [List.append_assoc, List.append_nil, List.nil_append]) hP hK hD hN hS hA rfl hl rfl (Nat.le_of_ble_eq_true rfl) dL_pass_72 ⟨Nat.zero_le _, Nat.zero_le _⟩ (fun H locs hP hD hS => ?_)
                  refine lv_lload hx hb dL_pass_75 (lv_at hl 6 rfl) ?_
                  refine lv_lload hx hb dL_pass_77 (lv_at hl 0 rfl) ?_
                  refine lv_ladd hx hb dL_pass_79 ?_
                  obtain ⟨x5_95, ex5_95, hf⟩ := lt_el hf
                  refine x_topl ex5_95 ?_
                  refine lv_lstore (lv' := [(5, .long x5_95), (9, .long r_86), (0, .int p1), (1, .ref ym0), (2, .ref yq0), (3, .ref yh0), (4, .ref ye0), (7, .int z7_46), (8, .int z8_77)]) hx hb dL_pass_80 hl (by decide) rfl (fun ls hl => ?_)
                  refine lv_iinc (v := (z8_77 + 1)) (lv' := [(8, .int (z8_77 + 1)), (5, .long x5_95), (9, .long r_86), (0, .int p1), (1, .ref ym0), (2, .ref yq0), (3, .ref yh0), (4, .ref ye0), (7, .int z7_46)]) hx hb dL_pass_82 hl (k := 8) rfl rfl (by decide) rfl (fun ls hl => ?_)
                  refine lv_goto (tgt := 22) hx hb dL_pass_85 (by decide) ?_
                  exact ih ee_91 mm_92 qq_93 x5_95 (z8_77 + 1) _ _ _ _ hf hP hD hS (lv_sub hl [3, 4, 5, 6, 7, 1, 8, 0] rfl) hr_22 kx_22
              · have hf := x_f c_84 hf
                refine lv_goto (tgt := 82) hx hb dL_pass_39 (by decide) ?_
                refine lv_iinc (v := (z8_77 + 1)) (lv' := [(8, .int (z8_77 + 1)), (0, .int p1), (1, .ref ym0), (2, .ref yq0), (3, .ref yh0), (4, .ref ye0), (5, .long z5_76), (7, .int z7_46)]) hx hb dL_pass_82 hl (k := 7) rfl rfl (by decide) rfl (fun ls hl => ?_)
                refine lv_goto (tgt := 22) hx hb dL_pass_85 (by decide) ?_
                exact ih ee_73 mm_74 qq_75 z5_76 (z8_77 + 1) _ _ _ _ hf hP hD hS (lv_sub hl [1, 2, 3, 4, 5, 6, 7, 0] rfl) hr_22 kx_22
        obtain ⟨ee_56, mm_57, qq_58, x5_59, h1_22, hf⟩ := bd4_el hf
        refine hL_22 2147483648 ee_41 mm_42 qq_55 z5_45 1 _ _ _ _ h1_22 hP hD hS (lv_sub hl [1, 2, 3, 4, 5, 6, 7, 0] rfl) trivial (fun ee_569 mm_579 qq_589 x5_599 ho H locs ls hP hD hS hl => ?_)
        cases ho
        refine lv_iconst (v := 0) hx hb dL_pass_88 (by decide) ?_
        refine lv_istore (lv' := [(8, .int 0), (0, .int p1), (1, .ref ym0), (2, .ref yq0), (3, .ref yh0), (4, .ref ye0), (5, .long x5_59), (7, .int z7_46)]) hx hb dL_pass_89 hl (by decide) rfl (fun ls hl => ?_)
        have hL_91 : ∀ (n : Nat) (hh_61 : Nat → Int32) (z8_62 : Int32) (o : (Nat → Int32)) (H : Heap) (locs : List Loc) (ls : Array Slot), fL_pass_L91 qq_58 p1 x5_59 z7_46 n hh_61 z8_62 = some o → va_P D vwCl (wAE cy ye0 ee_56 ++ (wAM cy ym0 mm_57 ++ (wAQ cy yq0 qq_58 ++ wAH cy yh0 hh_61))) H → va_D A (wAE cy ye0 ee_56 ++ (wAM cy ym0 mm_57 ++ (wAQ cy yq0 qq_58 ++ wAH cy yh0 hh_61))) → va_S A s.heap H locs → lv_has ls 11 [(0, .int p1), (1, .ref ym0), (2, .ref yq0), (3, .ref yh0), (4, .ref ye0), (5, .long x5_59), (7, .int z7_46), (8, .int z8_62)] → True → ((∀ (hh_63 : Nat → Int32) , o = hh_63 → ∀ (H : Heap) (locs : List Loc) (ls : Array Slot), va_P D vwCl (wAE cy ye0 ee_56 ++ (wAM cy ym0 mm_57 ++ (wAQ cy yq0 qq_58 ++ wAH cy yh0 hh_63))) H → va_D A (wAE cy ye0 ee_56 ++ (wAM cy ym0 mm_57 ++ (wAQ cy yq0 qq_58 ++ wAH cy yh0 hh_63))) → va_S A s.heap H locs → lv_has ls 11 [(0, .int p1), (1, .ref ym0), (2, .ref yq0), (3, .ref yh0), (4, .ref ye0), (5, .long x5_59), (7, .int z7_46)] →  W p l e rmL_pass s m ([.int p1, .ref ym0, .ref yq0, .ref yh0, .ref ye0] : List Value).toArray below meth c H locs 0 0 (MQ below (xQl D cy (wAE cy ye0 ee' ++ (wAM cy ym0 mm' ++ (wAQ cy yq0 qq' ++ wAH cy yh0 hh'))) r A) ([.int p1, .ref ym0, .ref yq0, .ref yh0, .ref ye0] : List Value).toArray s 0 0 A) (F0 m 128 ls []))) → W p l e rmL_pass s m ([.int p1, .ref ym0, .ref yq0, .ref yh0, .ref ye0] : List Value).toArray below meth c H locs 0 0 (MQ below (xQl D cy (wAE cy ye0 ee' ++ (wAM cy ym0 mm' ++ (wAQ cy yq0 qq' ++ wAH cy yh0 hh'))) r A) ([.int p1, .ref ym0, .ref yq0, .ref yh0, .ref ye0] : List Value).toArray s 0 0 A) (F0 m 91 ls []) := by
          intro n
          induction n with
          | zero =>
            intro hh_61 z8_62 o_91 H locs ls hf
            rw [fL_pass_L91] at hf
            cases hf
          | succ n ih =>
            intro hh_61 z8_62 o_91 H locs ls hf hP hD hS hl hr_91 kx_91
            rw [fL_pass_L91] at hf
            refine lv_iload hx hb dL_pass_91 (lv_at hl 7 rfl) ?_
            refine lv_bipush (v := 60) hx hb dL_pass_93 (by decide) ?_
            refine lv_icmp_ge (tgt := 128) hx hb dL_pass_95 (by decide) (fun c_64 => ?_) (fun c_64 => ?_)
            · have hf := x_t c_64 hf
              exact kx_91 hh_61 (Option.some.inj hf).symm _ _ _ hP hD hS (lv_sub hl [0, 1, 2, 3, 4, 5, 6] rfl)
            · have hf := x_f c_64 hf
              refine lv_aload_n hx hb dL_pass_98 rfl (lv_at hl 3 rfl) ?_
              refine lv_iload hx hb dL_pass_99 (lv_at hl 7 rfl) ?_
              refine lv_aload_n hx hb dL_pass_101 rfl (lv_at hl 2 rfl) ?_
              refine lv_iconst (v := 0) hx hb dL_pass_102 (by decide) ?_
              obtain ⟨hi_65, hf⟩ := ckI_el hf
              refine va_iald hx hb hK hP 2 1 rfl rfl hi_65 dL_pass_103 ?_
              refine lv_aload_n hx hb dL_pass_104 rfl (lv_at hl 3 rfl) ?_
              refine lv_iload hx hb dL_pass_105 (lv_at hl 7 rfl) ?_
              refine lv_iconst (v := 2) hx hb dL_pass_107 (by decide) ?_
              refine lv_iadd hx hb dL_pass_108 ?_
              obtain ⟨hi_66, hf⟩ := ckI_el hf
              refine va_iald hx hb hK hP 3 1 rfl rfl hi_66 dL_pass_109 ?_
              refine lv_icmp_le (tgt := 117) hx hb dL_pass_110 (by decide) (fun c_67 => ?_) (fun c_67 => ?_)
              · have hf := x_t c_67 hf
                refine lv_aload_n hx hb dL_pass_117 rfl (lv_at hl 3 rfl) ?_
                refine lv_iload hx hb dL_pass_118 (lv_at hl 7 rfl) ?_
                obtain ⟨hi_68, hf⟩ := ckI_el hf
                refine va_iald hx hb hK hP 3 1 rfl rfl hi_68 dL_pass_120 ?_
                obtain ⟨hi_69, hf⟩ := ckI_el hf
                obtain ⟨hh_70, ehh_70, hf⟩ := lt_el hf
                refine x_iast hx hb hK hP hD hS 3 rfl hi_69 ehh_70 (w' := wAE cy ye0 ee_56 ++ (wAM cy ym0 mm_57 ++ (wAQ cy yq0 qq_58 ++ wAH cy yh0 hh_70))) rfl dL_pass_121 (fun H locs hP hD hS => ?_)
                refine lv_iinc (v := (z8_62 + 3)) (lv' := [(8, .int (z8_62 + 3)), (0, .int p1), (1, .ref ym0), (2, .ref yq0), (3, .ref yh0), (4, .ref ye0), (5, .long x5_59), (7, .int z7_46)]) hx hb dL_pass_122 hl (k := 7) rfl rfl (by decide) rfl (fun ls hl => ?_)
                refine lv_goto (tgt := 91) hx hb dL_pass_125 (by decide) ?_
                exact ih hh_70 (z8_62 + 3) _ _ _ _ hf hP hD hS (lv_sub hl [1, 2, 3, 4, 5, 6, 7, 0] rfl) hr_91 kx_91
              · have hf := x_f c_67 hf
                refine lv_iconst (v := 0) hx hb dL_pass_113 (by decide) ?_
                refine lv_goto (tgt := 121) hx hb dL_pass_114 (by decide) ?_
                obtain ⟨hi_71, hf⟩ := ckI_el hf
                obtain ⟨hh_72, ehh_72, hf⟩ := lt_el hf
                refine x_iast hx hb hK hP hD hS 3 rfl hi_71 ehh_72 (w' := wAE cy ye0 ee_56 ++ (wAM cy ym0 mm_57 ++ (wAQ cy yq0 qq_58 ++ wAH cy yh0 hh_72))) rfl dL_pass_121 (fun H locs hP hD hS => ?_)
                refine lv_iinc (v := (z8_62 + 3)) (lv' := [(8, .int (z8_62 + 3)), (0, .int p1), (1, .ref ym0), (2, .ref yq0), (3, .ref yh0), (4, .ref ye0), (5, .long x5_59), (7, .int z7_46)]) hx hb dL_pass_122 hl (k := 7) rfl rfl (by decide) rfl (fun ls hl => ?_)
                refine lv_goto (tgt := 91) hx hb dL_pass_125 (by decide) ?_
                exact ih hh_72 (z8_62 + 3) _ _ _ _ hf hP hD hS (lv_sub hl [1, 2, 3, 4, 5, 6, 7, 0] rfl) hr_91 kx_91
        obtain ⟨hh_60, h1_91, hf⟩ := bd1_el hf
        refine hL_91 2147483648 hh_44 0 _ _ _ _ h1_91 hP hD hS (lv_sub hl [1, 2, 3, 4, 5, 6, 7, 0] rfl) trivial (fun hh_609 ho H locs ls hP hD hS hl => ?_)
        cases ho
        refine lv_iinc (v := (z7_46 + 1)) (lv' := [(7, .int (z7_46 + 1)), (0, .int p1), (1, .ref ym0), (2, .ref yq0), (3, .ref yh0), (4, .ref ye0), (5, .long x5_59)]) hx hb dL_pass_128 hl (k := 6) rfl rfl (by decide) rfl (fun ls hl => ?_)
        refine lv_goto (tgt := 6) hx hb dL_pass_131 (by decide) ?_
        exact ih ee_56 mm_57 qq_58 hh_60 x5_59 (z7_46 + 1) _ _ _ _ hf hP hD hS (lv_sub hl [1, 2, 3, 4, 5, 6, 0] rfl) hr_6 kx_6
  obtain ⟨ee_33, mm_34, qq_35, hh_36, x5_37, h1_6, hf⟩ := bd5_el hf
  refine hL_6 2147483648 ee mm qq hh 0 0 _ _ _ _ h1_6 hP hD hS (lv_sub hl [2, 3, 4, 5, 6, 1, 0] rfl) trivial (fun ee_339 mm_349 qq_359 hh_369 x5_379 ho H locs ls hP hD hS hl => ?_)
  cases ho
  refine lv_aload_n hx hb dL_pass_134 rfl (lv_at hl 0 rfl) ?_
  refine lv_bipush (v := 21) hx hb dL_pass_135 (by decide) ?_
  refine lv_dup2_11 hx hb dL_pass_137 rfl rfl ?_
  obtain ⟨hi_38, hf⟩ := ckI_el hf
  refine va_lald hx hb hK hP 1 2 rfl rfl hi_38 dL_pass_138 ?_
  refine lv_lload hx hb dL_pass_139 (lv_at hl 1 rfl) ?_
  refine lv_ladd hx hb dL_pass_141 ?_
  obtain ⟨hi_39, hf⟩ := ckI_el hf
  obtain ⟨mm_40, emm_40, hf⟩ := lt_el hf
  refine x_last hx hb hK hP hD hS 1 rfl hi_39 emm_40 (w' := wAE cy ye0 ee_33 ++ (wAM cy ym0 mm_40 ++ (wAQ cy yq0 qq_35 ++ wAH cy yh0 hh_36))) rfl dL_pass_142 (fun H locs hP hD hS => ?_)
  refine lv_lload hx hb dL_pass_143 (lv_at hl 1 rfl) ?_
  have hf := Option.some.inj hf
  cases hf
  exact x_lret hx hb hr hlocks hK hP hD hS dL_pass_145
theorem kdL_clients : yL_clients.cls ≠ "java/lang/invoke/MethodHandle" ∧ yL_clients.cls ≠ "java/lang/invoke/VarHandle" ∧ (parseMethodDescriptor yL_clients.desc).map (fun d => d.parameters.length) = some 1 := by decide +kernel
def rmL_clients : Room := { frames := 0, cells := 0, slots := 0, locals := 0 }
set_option maxHeartbeats 4000000 in
set_option maxRecDepth 100000 in
theorem mL_clients (l : Launch) (D : va_G) (cy : Nat → ClassId) (yq0 : Nat) (qq : Nat → Int32)  (r : Int32) (hf : fL_clients qq = some r) : xMi l D cy yL_clients aL_clients rmL_clients ([.ref yq0] : List Value) (wAQ cy yq0 qq) (wAQ cy yq0 qq) r := by
  intro hz
  refine x_start (Qc := xQi D cy _ r) (cc := cL_clients) (maxL := 3) (ret := (some .int)) (by decide) rfl (Nat.le_of_ble_eq_true rfl) (lv := [(0, .ref yq0)]) rfl ?_
  intro p e s m below meth c ls A hx hb hr hml hown hts hlocks hK hP hD hS hA hN hl
  have hown : s.vm.findClass RL = some m.cls := hown
  have hbg : ∀ w ∈ wsL_law, w ∈ aL_clients := fun w h => List.mem_cons_of_mem _ h
  unfold fL_clients at hf
  refine lv_iconst (v := 0) hx hb dL_clients_0 (by decide) ?_
  refine lv_istore_n (lv' := [(1, .int 0), (0, .ref yq0)]) hx hb dL_clients_1 rfl hl (by decide) rfl (fun ls hl => ?_)
  refine lv_iconst (v := 1) hx hb dL_clients_2 (by decide) ?_
  refine lv_istore_n (lv' := [(2, .int 1), (1, .int 0), (0, .ref yq0)]) hx hb dL_clients_3 rfl hl (by decide) rfl (fun ls hl => ?_)
  have hL_4 : ∀ (n : Nat) (z1_7 : Int32) (z2_8 : Int32) (o : Int32) (H : Heap) (locs : List Loc) (ls : Array Slot), fL_clients_L4 qq n z1_7 z2_8 = some o → va_P D vwCl (wAQ cy yq0 qq) H → va_D A (wAQ cy yq0 qq) → va_S A s.heap H locs → lv_has ls 3 [(0, .ref yq0), (1, .int z1_7), (2, .int z2_8)] → True → ((∀ (x1_9 : Int32) , o = x1_9 → ∀ (H : Heap) (locs : List Loc) (ls : Array Slot), va_P D vwCl (wAQ cy yq0 qq) H → va_D A (wAQ cy yq0 qq) → va_S A s.heap H locs → lv_has ls 3 [(1, .int x1_9)] →  W p l e rmL_clients s m ([.ref yq0] : List Value).toArray below meth c H locs 0 0 (MQ below (xQi D cy (wAQ cy yq0 qq) r A) ([.ref yq0] : List Value).toArray s 0 0 A) (F0 m 33 ls []))) → W p l e rmL_clients s m ([.ref yq0] : List Value).toArray below meth c H locs 0 0 (MQ below (xQi D cy (wAQ cy yq0 qq) r A) ([.ref yq0] : List Value).toArray s 0 0 A) (F0 m 4 ls []) := by
    intro n
    induction n with
    | zero =>
      intro z1_7 z2_8 o_4 H locs ls hf
      rw [fL_clients_L4] at hf
      cases hf
    | succ n ih =>
      intro z1_7 z2_8 o_4 H locs ls hf hP hD hS hl hr_4 kx_4
      rw [fL_clients_L4] at hf
      refine lv_iload_n hx hb dL_clients_4 rfl (lv_at hl 2 rfl) ?_
      refine lv_bipush (v := 7) hx hb dL_clients_5 (by decide) ?_
      refine lv_icmp_ge (tgt := 33) hx hb dL_clients_7 (by decide) (fun c_10 => ?_) (fun c_10 => ?_)
      · have hf := x_t c_10 hf
        exact kx_4 z1_7 (Option.some.inj hf).symm _ _ _ hP hD hS (lv_sub hl [1] rfl)
      · have hf := x_f c_10 hf
        refine lv_iload_n hx hb dL_clients_10 rfl (lv_at hl 1 rfl) ?_
        refine lv_aload_n hx hb dL_clients_11 rfl (lv_at hl 0 rfl) ?_
        refine lv_bipush (v := 10) hx hb dL_clients_12 (by decide) ?_
        refine lv_iload_n hx hb dL_clients_14 rfl (lv_at hl 2 rfl) ?_
        refine lv_iadd hx hb dL_clients_15 ?_
        obtain ⟨hi_11, hf⟩ := ckI_el hf
        refine va_iald hx hb hK hP 0 1 rfl rfl hi_11 dL_clients_16 ?_
        refine lv_if_ge (tgt := 24) hx hb dL_clients_17 (by decide) (fun c_12 => ?_) (fun c_12 => ?_)
        · have hf := x_t c_12 hf
          refine lv_iconst (v := 1) hx hb dL_clients_24 (by decide) ?_
          refine lv_iadd hx hb dL_clients_25 ?_
          obtain ⟨x1_13, ex1_13, hf⟩ := lt_el hf
          refine x_topi ex1_13 ?_
          refine lv_istore_n (lv' := [(1, .int x1_13), (0, .ref yq0), (2, .int z2_8)]) hx hb dL_clients_26 rfl hl (by decide) rfl (fun ls hl => ?_)
          refine lv_iinc (v := (z2_8 + 1)) (lv' := [(2, .int (z2_8 + 1)), (1, .int x1_13), (0, .ref yq0)]) hx hb dL_clients_27 hl (k := 2) rfl rfl (by decide) rfl (fun ls hl => ?_)
          refine lv_goto (tgt := 4) hx hb dL_clients_30 (by decide) ?_
          exact ih x1_13 (z2_8 + 1) _ _ _ _ hf hP hD hS (lv_sub hl [2, 1, 0] rfl) hr_4 kx_4
        · have hf := x_f c_12 hf
          refine lv_iconst (v := 0) hx hb dL_clients_20 (by decide) ?_
          refine lv_goto (tgt := 25) hx hb dL_clients_21 (by decide) ?_
          refine lv_iadd hx hb dL_clients_25 ?_
          obtain ⟨x1_14, ex1_14, hf⟩ := lt_el hf
          refine x_topi ex1_14 ?_
          refine lv_istore_n (lv' := [(1, .int x1_14), (0, .ref yq0), (2, .int z2_8)]) hx hb dL_clients_26 rfl hl (by decide) rfl (fun ls hl => ?_)
          refine lv_iinc (v := (z2_8 + 1)) (lv' := [(2, .int (z2_8 + 1)), (1, .int x1_14), (0, .ref yq0)]) hx hb dL_clients_27 hl (k := 2) rfl rfl (by decide) rfl (fun ls hl => ?_)
          refine lv_goto (tgt := 4) hx hb dL_clients_30 (by decide) ?_
          exact ih x1_14 (z2_8 + 1) _ _ _ _ hf hP hD hS (lv_sub hl [2, 1, 0] rfl) hr_4 kx_4
  obtain ⟨x1_6, h1_4, hf⟩ := bd1_el hf
  refine hL_4 2147483648 0 1 _ _ _ _ h1_4 hP hD hS (lv_sub hl [2, 1, 0] rfl) trivial (fun x1_69 ho H locs ls hP hD hS hl => ?_)
  cases ho
  refine lv_iload_n hx hb dL_clients_33 rfl (lv_at hl 0 rfl) ?_
  have hf := Option.some.inj hf
  cases hf
  exact x_iret hx hb hr hlocks hK hP hD hS dL_clients_34
