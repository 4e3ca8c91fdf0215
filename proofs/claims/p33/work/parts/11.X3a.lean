theorem kdX3_keyOf : yX3_keyOf.cls ≠ "java/lang/invoke/MethodHandle" ∧ yX3_keyOf.cls ≠ "java/lang/invoke/VarHandle" ∧ (parseMethodDescriptor yX3_keyOf.desc).map (fun d => d.parameters.length) = some 3 := by decide +kernel
def rmX3_keyOf : Room := { frames := 3, cells := 0, slots := 0, locals := 67 }
set_option maxHeartbeats 4000000 in
set_option maxRecDepth 100000 in
theorem mX3_keyOf (l : Launch) (D : va_G) (cy : Nat → ClassId) (a0 a1 a2 a3 a4 a5 a6 a7 a8 a9 a10 a11 : Nat) (Asz : Int32) (Anu : Nat → Int32) (Aba : Nat → Int32) (Amo : Nat → Int32) (Aco : Nat → Int64) (Hsz : Int32) (Hla : Int32) (Hce : Nat → Int32) (Bsz : Int32) (Bla : Int32) (Bce : Nat → Int32) (Tma : Int32) (Tlc : Int32) (Ttc : Nat → Int32) (day : Int32) (lim : Int32) (low : Int32) (hig : Int32) (thr : Int32) (off : Int64) (cre : Int64) (rcp : Int64) (pay : Int64) (p2 : Int32) (p3 : Int32) (r : Int32) (hf : fX3_keyOf Asz Anu Aba Amo Hsz Hce p2 p3 = some r) : xMi l D cy yX3_keyOf aX3_keyOf rmX3_keyOf ([.ref a0, .int p2, .int p3] : List Value) (wX5 cy a0 a1 a2 a3 a4 a5 a6 a7 a8 a9 a10 a11 Asz Anu Aba Amo Aco Hsz Hla Hce Bsz Bla Bce Tma Tlc Ttc day lim low hig thr off cre rcp pay) (wX5 cy a0 a1 a2 a3 a4 a5 a6 a7 a8 a9 a10 a11 Asz Anu Aba Amo Aco Hsz Hla Hce Bsz Bla Bce Tma Tlc Ttc day lim low hig thr off cre rcp pay) r := by
  intro hz
  refine x_start (Qc := xQi D cy _ r) (cc := cX3_keyOf) (maxL := 3) (ret := (some .int)) (by decide) rfl (Nat.le_of_ble_eq_true rfl) (lv := [(0, .ref a0), (1, .int p2), (2, .int p3)]) rfl ?_
  intro p e s m below meth c ls A hx hb hr hml hown hts hlocks hK hP hD hS hA hN hl
  have hown : s.vm.findClass RX3 = some m.cls := hown
  have hbg : ∀ w ∈ wsL_law, w ∈ aX3_keyOf := fun w h => List.mem_cons_of_mem _ h
  have wd0 : (Cond.fieldLink RX3 22 "ClientMoneyBook$State" "accounts" "LClientMoneyBook$Accounts;").before ([.ref a0, .int p2, .int p3] : List Value).toArray s = true := hts _ (List.mem_cons_of_mem _ wm_20_15)
  have iX5 : ∀ w ∈ u_ws RX5 TX5 13, w ∈ aX3_keyOf := fun w h => List.mem_cons_of_mem _ (inlX5 w h)
  unfold fX3_keyOf at hf
  refine lv_iload_n hx hb dX3_keyOf_0 rfl (lv_at hl 1 rfl) ?_
  by_cases s_1 : p2 = 1
  · have hf := x_t s_1 hf
    have s_1i : p2.toInt = 1 := by rw [s_1]; rfl
    refine lv_tableIn (tgt := 28) (off := 27) hx hb dX3_keyOf_1 (by rw [s_1i]; decide) (by rw [s_1i]; decide) (by rw [s_1i]; rfl) (by decide) ?_
    refine lv_aload_n hx hb dX3_keyOf_28 rfl (lv_at hl 0 rfl) ?_
    refine x_get hx hb (C := RX5) (T := TX5) (N := 13) (ci := 5) hts iX5 hown hK hP 0 rfl rfl 0 (by decide) wd0 rfl (.ref a1) rfl dX3_keyOf_29 ?_
    refine lv_iload_n hx hb dX3_keyOf_32 rfl (lv_at hl 2 rfl) ?_
    obtain ⟨r_2, h_3, hf⟩ := bd1_el hf
    refine x_callVi (As := [.int p3]) (rest := []) ⟨hx, hb, hml, hown, hts⟩ (mX0_balanceAt l D cy a1 a2 a3 a4 a5 Asz Anu Aba Amo Aco p3 r_2 h_3) (cwV 1 hts (gcV_X0_balanceAt hbg wm_20_21) rfl rfl rfl kdX0_balanceAt ⟨Nat.le_of_ble_eq_true rfl, Nat.le_of_ble_eq_true rfl⟩) (w1 := [(a0, .inr (5, [.ref a1, .ref a6, .ref a8, .ref a10, .int day, .int lim, .int low, .int hig, .int thr, .long off, .long cre, .long rcp, .long pay]))]) (w2 := wX4 cy a6 a7 Hsz Hla Hce ++ (wX4 cy a8 a9 Bsz Bla Bce ++ (wX6 cy a10 a11 Tma Tlc Ttc))) (w' := wX5 cy a0 a1 a2 a3 a4 a5 a6 a7 a8 a9 a10 a11 Asz Anu Aba Amo Aco Hsz Hla Hce Bsz Bla Bce Tma Tlc Ttc day lim low hig thr off cre rcp pay) rfl rfl hP hK hD hN hS hA (q0 := 0) rfl rfl rfl rfl hl rfl (Nat.le_of_ble_eq_true rfl) dX3_keyOf_33 ⟨Nat.zero_le _, Nat.zero_le _⟩ (fun H locs hP hD hS => ?_)
    refine lv_ineg hx hb dX3_keyOf_36 ?_
    have hf := Option.some.inj hf
    cases hf
    exact x_iret hx hb hr hlocks hK hP hD hS dX3_keyOf_37
  · have hf := x_f s_1 hf
    by_cases s_4 : p2 = 2
    · have hf := x_t s_4 hf
      have s_4i : p2.toInt = 2 := by rw [s_4]; rfl
      refine lv_tableIn (tgt := 38) (off := 37) hx hb dX3_keyOf_1 (by rw [s_4i]; decide) (by rw [s_4i]; decide) (by rw [s_4i]; rfl) (by decide) ?_
      refine lv_aload_n hx hb dX3_keyOf_38 rfl (lv_at hl 0 rfl) ?_
      refine lv_iload_n hx hb dX3_keyOf_39 rfl (lv_at hl 2 rfl) ?_
      obtain ⟨r_5, h_6, hf⟩ := bd1_el hf
      refine x_callVi (As := [.int p3]) (rest := []) ⟨hx, hb, hml, hown, hts⟩ (mX5_freeAt l D cy a0 a1 a2 a3 a4 a5 a6 a7 a8 a9 a10 a11 Asz Anu Aba Amo Aco Hsz Hla Hce Bsz Bla Bce Tma Tlc Ttc day lim low hig thr off cre rcp pay p3 r_5 h_6) (cwV 1 hts (gcV_X5_freeAt hbg wm_20_22) rfl rfl rfl kdX5_freeAt ⟨Nat.le_of_ble_eq_true rfl, Nat.le_of_ble_eq_true rfl⟩) (w1 := []) (w2 := []) (w' := wX5 cy a0 a1 a2 a3 a4 a5 a6 a7 a8 a9 a10 a11 Asz Anu Aba Amo Aco Hsz Hla Hce Bsz Bla Bce Tma Tlc Ttc day lim low hig thr off cre rcp pay) (List.append_nil _) (List.append_nil _) hP hK hD hN hS hA (q0 := 0) rfl rfl rfl rfl hl rfl (Nat.le_of_ble_eq_true rfl) dX3_keyOf_40 ⟨Nat.zero_le _, Nat.zero_le _⟩ (fun H locs hP hD hS => ?_)
      have hf := Option.some.inj hf
      cases hf
      exact x_iret hx hb hr hlocks hK hP hD hS dX3_keyOf_43
    · have hf := x_f s_4 hf
      by_cases s_7 : p2 = 3
      · have hf := x_t s_7 hf
        have s_7i : p2.toInt = 3 := by rw [s_7]; rfl
        refine lv_tableIn (tgt := 44) (off := 43) hx hb dX3_keyOf_1 (by rw [s_7i]; decide) (by rw [s_7i]; decide) (by rw [s_7i]; rfl) (by decide) ?_
        refine lv_aload_n hx hb dX3_keyOf_44 rfl (lv_at hl 0 rfl) ?_
        refine x_get hx hb (C := RX5) (T := TX5) (N := 13) (ci := 5) hts iX5 hown hK hP 0 rfl rfl 0 (by decide) wd0 rfl (.ref a1) rfl dX3_keyOf_45 ?_
        refine lv_iload_n hx hb dX3_keyOf_48 rfl (lv_at hl 2 rfl) ?_
        obtain ⟨r_8, h_9, hf⟩ := bd1_el hf
        refine x_callVi (As := [.int p3]) (rest := []) ⟨hx, hb, hml, hown, hts⟩ (mX0_movedAt l D cy a1 a2 a3 a4 a5 Asz Anu Aba Amo Aco p3 r_8 h_9) (cwV 1 hts (gcV_X0_movedAt hbg wm_20_23) rfl rfl rfl kdX0_movedAt ⟨Nat.le_of_ble_eq_true rfl, Nat.le_of_ble_eq_true rfl⟩) (w1 := [(a0, .inr (5, [.ref a1, .ref a6, .ref a8, .ref a10, .int day, .int lim, .int low, .int hig, .int thr, .long off, .long cre, .long rcp, .long pay]))]) (w2 := wX4 cy a6 a7 Hsz Hla Hce ++ (wX4 cy a8 a9 Bsz Bla Bce ++ (wX6 cy a10 a11 Tma Tlc Ttc))) (w' := wX5 cy a0 a1 a2 a3 a4 a5 a6 a7 a8 a9 a10 a11 Asz Anu Aba Amo Aco Hsz Hla Hce Bsz Bla Bce Tma Tlc Ttc day lim low hig thr off cre rcp pay) rfl rfl hP hK hD hN hS hA (q0 := 0) rfl rfl rfl rfl hl rfl (Nat.le_of_ble_eq_true rfl) dX3_keyOf_49 ⟨Nat.zero_le _, Nat.zero_le _⟩ (fun H locs hP hD hS => ?_)
        have hf := Option.some.inj hf
        cases hf
        exact x_iret hx hb hr hlocks hK hP hD hS dX3_keyOf_52
      · have hf := x_f s_7 hf
        refine lv_tableOut (tgt := 53) hx hb dX3_keyOf_1 (x_out1_3 s_1 s_4 s_7) (by decide) ?_
        refine lv_iconst (v := 0) hx hb dX3_keyOf_53 (by decide) ?_
        have hf := Option.some.inj hf
        cases hf
        exact x_iret hx hb hr hlocks hK hP hD hS dX3_keyOf_54
theorem kdX3_sort : yX3_sort.cls = RX3 ∧ yX3_sort.cls ≠ "java/lang/invoke/MethodHandle" ∧ yX3_sort.cls ≠ "java/lang/invoke/VarHandle" ∧ (parseMethodDescriptor yX3_sort.desc).map (fun d => d.parameters.length) = some 2 := by decide +kernel
def rmX3_sort : Room := { frames := 4, cells := 0, slots := 0, locals := 89 }
set_option maxHeartbeats 4000000 in
set_option maxRecDepth 100000 in
theorem mX3_sort (l : Launch) (D : va_G) (cy : Nat → ClassId) (a0 a1 a2 b0 b1 b2 b3 b4 b5 b6 b7 b8 b9 b10 b11 : Nat) (sz : Int32) (cl : Nat → Int32) (ke : Nat → Int32) (oAsz : Int32) (oAnu : Nat → Int32) (oAba : Nat → Int32) (oAmo : Nat → Int32) (oAco : Nat → Int64) (oHsz : Int32) (oHla : Int32) (oHce : Nat → Int32) (oBsz : Int32) (oBla : Int32) (oBce : Nat → Int32) (oTma : Int32) (oTlc : Int32) (oTtc : Nat → Int32) (oday : Int32) (olim : Int32) (olow : Int32) (ohig : Int32) (othr : Int32) (ooff : Int64) (ocre : Int64) (orcp : Int64) (opay : Int64) (p2 : Int32) (sz' : Int32) (cl' : Nat → Int32) (ke' : Nat → Int32) (hf : fX3_sort sz cl ke oAsz oAnu oAba oAmo oHsz oHce p2 = some (sz', cl', ke')) : xMv l D cy yX3_sort aX3_sort rmX3_sort ([.ref a0, .ref b0, .int p2] : List Value) (wX3 cy a0 a1 a2 sz cl ke ++ wX5 cy b0 b1 b2 b3 b4 b5 b6 b7 b8 b9 b10 b11 oAsz oAnu oAba oAmo oAco oHsz oHla oHce oBsz oBla oBce oTma oTlc oTtc oday olim olow ohig othr ooff ocre orcp opay) (wX3 cy a0 a1 a2 sz' cl' ke' ++ wX5 cy b0 b1 b2 b3 b4 b5 b6 b7 b8 b9 b10 b11 oAsz oAnu oAba oAmo oAco oHsz oHla oHce oBsz oBla oBce oTma oTlc oTtc oday olim olow ohig othr ooff ocre orcp opay) := by
  intro hz
  refine x_start (Qc := xQv D cy _) (cc := cX3_sort) (maxL := 6) (ret := none) (by decide) rfl (Nat.le_of_ble_eq_true rfl) (lv := [(0, .ref a0), (1, .ref b0), (2, .int p2)]) rfl ?_
  intro p e s m below meth c ls A hx hb hr hml hown hts hlocks hK hP hD hS hA hN hl
  have hown : s.vm.findClass RX3 = some m.cls := hown
  have hbg : ∀ w ∈ wsL_law, w ∈ aX3_sort := fun w h => List.mem_cons_of_mem _ h
  have wd0 : (Cond.fieldLink RX3 22 "ClientMoneyBook$State" "accounts" "LClientMoneyBook$Accounts;").before ([.ref a0, .ref b0, .int p2] : List Value).toArray s = true := hts _ (List.mem_cons_of_mem _ wm_20_15)
  have wd1 : (Cond.fieldLink RX3 28 "ClientMoneyBook$Accounts" "size" "I").before ([.ref a0, .ref b0, .int p2] : List Value).toArray s = true := hts _ (List.mem_cons_of_mem _ wm_20_16)
  have wd2 : (Cond.methodLink RX3 31 Lib.Math.min.name).before ([.ref a0, .ref b0, .int p2] : List Value).toArray s = true := hts _ (List.mem_cons_of_mem _ wm_20_17)
  have wd3 : (Cond.static Lib.Math.min.name).before ([.ref a0, .ref b0, .int p2] : List Value).toArray s = true := hts _ (List.mem_cons_of_mem _ wm_7_19)
  have wd4 : (Cond.initialized "java/lang/Math").before ([.ref a0, .ref b0, .int p2] : List Value).toArray s = true := hts _ (List.mem_cons_of_mem _ wm_7_20)
  have wd5 : (Cond.code Lib.Math.min.name Lib.Math.min.code 2 (some .int)).before ([.ref a0, .ref b0, .int p2] : List Value).toArray s = true := hts _ (List.mem_cons_of_mem _ wm_7_21)
  have wd6 : (Cond.fieldLink RX3 9 "ClientMoneyBook$Ranking" "size" "I").before ([.ref a0, .ref b0, .int p2] : List Value).toArray s = true := hts _ (List.mem_cons_of_mem _ wm_4_10)
  have wd7 : (Cond.fieldLink RX3 19 "ClientMoneyBook$Ranking" "keys" "[I").before ([.ref a0, .ref b0, .int p2] : List Value).toArray s = true := hts _ (List.mem_cons_of_mem _ wm_4_12)
  have wd8 : (Cond.fieldLink RX3 15 "ClientMoneyBook$Ranking" "clients" "[I").before ([.ref a0, .ref b0, .int p2] : List Value).toArray s = true := hts _ (List.mem_cons_of_mem _ wm_4_11)
  have iX0 : ∀ w ∈ u_ws RX0 TX0 5, w ∈ aX3_sort := fun w h => List.mem_cons_of_mem _ (inlX0 w h)
  have iX3 : ∀ w ∈ u_ws RX3 TX3 3, w ∈ aX3_sort := fun w h => List.mem_cons_of_mem _ (inlX3 w h)
  have iX5 : ∀ w ∈ u_ws RX5 TX5 13, w ∈ aX3_sort := fun w h => List.mem_cons_of_mem _ (inlX5 w h)
  unfold fX3_sort at hf
  refine lv_aload_n hx hb dX3_sort_0 rfl (lv_at hl 0 rfl) ?_
  refine lv_aload_n hx hb dX3_sort_1 rfl (lv_at hl 1 rfl) ?_
  refine x_get hx hb (C := RX5) (T := TX5) (N := 13) (ci := 5) hts iX5 hown hK hP 3 rfl rfl 0 (by decide) wd0 rfl (.ref b1) rfl dX3_sort_2 ?_
  refine x_get hx hb (C := RX0) (T := TX0) (N := 5) (ci := 0) hts iX0 hown hK hP 4 rfl rfl 0 (by decide) wd1 rfl (.int oAsz) rfl dX3_sort_5 ?_
  refine lv_bipush (v := 12) hx hb dX3_sort_8 (by decide) ?_
  obtain ⟨mn_1, emn_1, hf⟩ := lt_el hf
  refine va_mmin hx hb (hml.trans hl.1.symm) hown wd2 wd3 wd4 wd5 (Nat.le_of_ble_eq_true rfl) (Nat.le_of_ble_eq_true rfl) (Nat.zero_le _) (Nat.zero_le _) dX3_sort_10 ?_
  refine x_topi emn_1 ?_
  refine x_put hx hb (C := RX3) (T := TX3) (N := 3) (ci := 3) hts iX3 tyX3 tyX3_ok nmX3 hown hK hP hD hS 0 rfl rfl 0 (by decide) wd6 rfl rfl (ty := .int) rfl rfl rfl (Nat.le_of_ble_eq_true rfl) (w' := wX3 cy a0 a1 a2 mn_1 cl ke ++ wX5 cy b0 b1 b2 b3 b4 b5 b6 b7 b8 b9 b10 b11 oAsz oAnu oAba oAmo oAco oHsz oHla oHce oBsz oBla oBce oTma oTlc oTtc oday olim olow ohig othr ooff ocre orcp opay) rfl dX3_sort_13 (fun H locs hP hD hS => ?_)
  refine lv_iconst (v := 0) hx hb dX3_sort_16 (by decide) ?_
  refine lv_istore_n (lv' := [(3, .int 0), (0, .ref a0), (1, .ref b0), (2, .int p2)]) hx hb dX3_sort_17 rfl hl (by decide) rfl (fun ls hl => ?_)
  have hL_18 : ∀ (n : Nat) (cl_25 : Nat → Int32) (ke_26 : Nat → Int32) (z3_27 : Int32) (o : (Nat → Int32) × (Nat → Int32)) (H : Heap) (locs : List Loc) (ls : Array Slot), fX3_sort_L18 mn_1 oAsz oAnu oAba oAmo oHsz oHce p2 n cl_25 ke_26 z3_27 = some o → va_P D vwCl (wX3 cy a0 a1 a2 mn_1 cl_25 ke_26 ++ wX5 cy b0 b1 b2 b3 b4 b5 b6 b7 b8 b9 b10 b11 oAsz oAnu oAba oAmo oAco oHsz oHla oHce oBsz oBla oBce oTma oTlc oTtc oday olim olow ohig othr ooff ocre orcp opay) H → va_D A (wX3 cy a0 a1 a2 mn_1 cl_25 ke_26 ++ wX5 cy b0 b1 b2 b3 b4 b5 b6 b7 b8 b9 b10 b11 oAsz oAnu oAba oAmo oAco oHsz oHla oHce oBsz oBla oBce oTma oTlc oTtc oday olim olow ohig othr ooff ocre orcp opay) → va_S A s.heap H locs → lv_has ls 6 [(0, .ref a0), (1, .ref b0), (2, .int p2), (3, .int z3_27)] → True → ((∀ (cl_28 : Nat → Int32) (ke_29 : Nat → Int32) , o = (cl_28, ke_29) → ∀ (H : Heap) (locs : List Loc) (ls : Array Slot), va_P D vwCl (wX3 cy a0 a1 a2 mn_1 cl_28 ke_29 ++ wX5 cy b0 b1 b2 b3 b4 b5 b6 b7 b8 b9 b10 b11 oAsz oAnu oAba oAmo oAco oHsz oHla oHce oBsz oBla oBce oTma oTlc oTtc oday olim olow ohig othr ooff ocre orcp opay) H → va_D A (wX3 cy a0 a1 a2 mn_1 cl_28 ke_29 ++ wX5 cy b0 b1 b2 b3 b4 b5 b6 b7 b8 b9 b10 b11 oAsz oAnu oAba oAmo oAco oHsz oHla oHce oBsz oBla oBce oTma oTlc oTtc oday olim olow ohig othr ooff ocre orcp opay) → va_S A s.heap H locs → lv_has ls 6 [] →  W p l e rmX3_sort s m ([.ref a0, .ref b0, .int p2] : List Value).toArray below meth c H locs 0 0 (MQ below (xQv D cy (wX3 cy a0 a1 a2 sz' cl' ke' ++ wX5 cy b0 b1 b2 b3 b4 b5 b6 b7 b8 b9 b10 b11 oAsz oAnu oAba oAmo oAco oHsz oHla oHce oBsz oBla oBce oTma oTlc oTtc oday olim olow ohig othr ooff ocre orcp opay) A) ([.ref a0, .ref b0, .int p2] : List Value).toArray s 0 0 A) (F0 m 124 ls []))) → W p l e rmX3_sort s m ([.ref a0, .ref b0, .int p2] : List Value).toArray below meth c H locs 0 0 (MQ below (xQv D cy (wX3 cy a0 a1 a2 sz' cl' ke' ++ wX5 cy b0 b1 b2 b3 b4 b5 b6 b7 b8 b9 b10 b11 oAsz oAnu oAba oAmo oAco oHsz oHla oHce oBsz oBla oBce oTma oTlc oTtc oday olim olow ohig othr ooff ocre orcp opay) A) ([.ref a0, .ref b0, .int p2] : List Value).toArray s 0 0 A) (F0 m 18 ls []) := by
    intro n
    induction n with
    | zero =>
      intro cl_25 ke_26 z3_27 o_18 H locs ls hf
      rw [fX3_sort_L18] at hf
      cases hf
    | succ n ih =>
      intro cl_25 ke_26 z3_27 o_18 H locs ls hf hP hD hS hl hr_18 kx_18
      rw [fX3_sort_L18] at hf
      refine lv_iload_n hx hb dX3_sort_18 rfl (lv_at hl 3 rfl) ?_
      refine lv_aload_n hx hb dX3_sort_19 rfl (lv_at hl 0 rfl) ?_
      refine x_get hx hb (C := RX3) (T := TX3) (N := 3) (ci := 3) hts iX3 hown hK hP 0 rfl rfl 0 (by decide) wd6 rfl (.int mn_1) rfl dX3_sort_20 ?_
      refine lv_icmp_ge (tgt := 124) hx hb dX3_sort_23 (by decide) (fun c_30 => ?_) (fun c_30 => ?_)
      · have hf := x_t c_30 hf
        exact kx_18 cl_25 ke_26 (Option.some.inj hf).symm _ _ _ hP hD hS (lv_sub hl [] rfl)
      · have hf := x_f c_30 hf
        refine lv_aload_n hx hb dX3_sort_26 rfl (lv_at hl 1 rfl) ?_
        refine lv_iload_n hx hb dX3_sort_27 rfl (lv_at hl 2 rfl) ?_
        refine lv_iload_n hx hb dX3_sort_28 rfl (lv_at hl 3 rfl) ?_
        obtain ⟨r_31, h_32, hf⟩ := bd1_el hf
        refine x_callSi (As := [.ref b0, .int p2, .int z3_27]) (rest := []) ⟨hx, hb, hml, hown, hts⟩ (mX3_keyOf l D cy b0 b1 b2 b3 b4 b5 b6 b7 b8 b9 b10 b11 oAsz oAnu oAba oAmo oAco oHsz oHla oHce oBsz oBla oBce oTma oTlc oTtc oday olim olow ohig othr ooff ocre orcp opay p2 z3_27 r_31 h_32) (va_cwS 3 hts (gcS_X3_keyOf hbg wm_20_18) rfl rfl rfl kdX3_keyOf ⟨Nat.le_of_ble_eq_true rfl, Nat.le_of_ble_eq_true rfl⟩) (w1 := wX3 cy a0 a1 a2 mn_1 cl_25 ke_26) (w2 := []) (w' := wX3 cy a0 a1 a2 mn_1 cl_25 ke_26 ++ wX5 cy b0 b1 b2 b3 b4 b5 b6 b7 b8 b9 b10 b11 oAsz oAnu oAba oAmo oAco oHsz oHla oHce oBsz oBla oBce oTma oTlc oTtc oday olim olow ohig othr ooff ocre orcp opay) (x_end rfl) (x_end rfl) hP hK hD hN hS hA rfl hl rfl (Nat.le_of_ble_eq_true rfl) dX3_sort_29 ⟨Nat.zero_le _, Nat.zero_le _⟩ (fun H locs hP hD hS => ?_)
        refine lv_istore (lv' := [(4, .int r_31), (0, .ref a0), (1, .ref b0), (2, .int p2), (3, .int z3_27)]) hx hb dX3_sort_32 hl (by decide) rfl (fun ls hl => ?_)
        refine lv_iload_n hx hb dX3_sort_34 rfl (lv_at hl 4 rfl) ?_
        refine lv_istore (lv' := [(5, .int z3_27), (4, .int r_31), (0, .ref a0), (1, .ref b0), (2, .int p2), (3, .int z3_27)]) hx hb dX3_sort_35 hl (by decide) rfl (fun ls hl => ?_)
        have hL_37 : ∀ (n : Nat) (cl_42 : Nat → Int32) (ke_43 : Nat → Int32) (z5_44 : Int32) (o : (Nat → Int32) × (Nat → Int32) × Int32) (H : Heap) (locs : List Loc) (ls : Array Slot), fX3_sort_L37 p2 z3_27 r_31 n cl_42 ke_43 z5_44 = some o → va_P D vwCl (wX3 cy a0 a1 a2 mn_1 cl_42 ke_43 ++ wX5 cy b0 b1 b2 b3 b4 b5 b6 b7 b8 b9 b10 b11 oAsz oAnu oAba oAmo oAco oHsz oHla oHce oBsz oBla oBce oTma oTlc oTtc oday olim olow ohig othr ooff ocre orcp opay) H → va_D A (wX3 cy a0 a1 a2 mn_1 cl_42 ke_43 ++ wX5 cy b0 b1 b2 b3 b4 b5 b6 b7 b8 b9 b10 b11 oAsz oAnu oAba oAmo oAco oHsz oHla oHce oBsz oBla oBce oTma oTlc oTtc oday olim olow ohig othr ooff ocre orcp opay) → va_S A s.heap H locs → lv_has ls 6 [(0, .ref a0), (1, .ref b0), (2, .int p2), (3, .int z3_27), (4, .int r_31), (5, .int z5_44)] → True → ((∀ (cl_45 : Nat → Int32) (ke_46 : Nat → Int32) (x5_47 : Int32) , o = (cl_45, ke_46, x5_47) → ∀ (H : Heap) (locs : List Loc) (ls : Array Slot), va_P D vwCl (wX3 cy a0 a1 a2 mn_1 cl_45 ke_46 ++ wX5 cy b0 b1 b2 b3 b4 b5 b6 b7 b8 b9 b10 b11 oAsz oAnu oAba oAmo oAco oHsz oHla oHce oBsz oBla oBce oTma oTlc oTtc oday olim olow ohig othr ooff ocre orcp opay) H → va_D A (wX3 cy a0 a1 a2 mn_1 cl_45 ke_46 ++ wX5 cy b0 b1 b2 b3 b4 b5 b6 b7 b8 b9 b10 b11 oAsz oAnu oAba oAmo oAco oHsz oHla oHce oBsz oBla oBce oTma oTlc oTtc oday olim olow ohig othr ooff ocre orcp opay) → va_S A s.heap H locs → lv_has ls 6 [(0, .ref a0), (1, .ref b0), (2, .int p2), (3, .int z3_27), (4, .int r_31), (5, .int x5_47)] →  W p l e rmX3_sort s m ([.ref a0, .ref b0, .int p2] : List Value).toArray below meth c H locs 0 0 (MQ below (xQv D cy (wX3 cy a0 a1 a2 sz' cl' ke' ++ wX5 cy b0 b1 b2 b3 b4 b5 b6 b7 b8 b9 b10 b11 oAsz oAnu oAba oAmo oAco oHsz oHla oHce oBsz oBla oBce oTma oTlc oTtc oday olim olow ohig othr ooff ocre orcp opay) A) ([.ref a0, .ref b0, .int p2] : List Value).toArray s 0 0 A) (F0 m 94 ls []))) → W p l e rmX3_sort s m ([.ref a0, .ref b0, .int p2] : List Value).toArray below meth c H locs 0 0 (MQ below (xQv D cy (wX3 cy a0 a1 a2 sz' cl' ke' ++ wX5 cy b0 b1 b2 b3 b4 b5 b6 b7 b8 b9 b10 b11 oAsz oAnu oAba oAmo oAco oHsz oHla oHce oBsz oBla oBce oTma oTlc oTtc oday olim olow ohig othr ooff ocre orcp opay) A) ([.ref a0, .ref b0, .int p2] : List Value).toArray s 0 0 A) (F0 m 37 ls []) := by
          intro n
          induction n with
          | zero =>
            intro cl_42 ke_43 z5_44 o_37 H locs ls hf
            rw [fX3_sort_L37] at hf
            cases hf
          | succ n ih =>
            intro cl_42 ke_43 z5_44 o_37 H locs ls hf hP hD hS hl hr_37 kx_37
            rw [fX3_sort_L37] at hf
            refine lv_iload hx hb dX3_sort_37 (lv_at hl 5 rfl) ?_
            refine lv_if_le (tgt := 94) hx hb dX3_sort_39 (by decide) (fun c_48 => ?_) (fun c_48 => ?_)
            · have hf := x_t c_48 hf
              exact kx_37 cl_42 ke_43 z5_44 (Option.some.inj hf).symm _ _ _ hP hD hS (lv_sub hl [0, 1, 2, 3, 4, 5] rfl)
            · have hf := x_f c_48 hf
              refine lv_aload_n hx hb dX3_sort_42 rfl (lv_at hl 0 rfl) ?_
              refine x_get hx hb (C := RX3) (T := TX3) (N := 3) (ci := 3) hts iX3 hown hK hP 0 rfl rfl 2 (by decide) wd7 rfl (.ref a2) rfl dX3_sort_43 ?_
              refine lv_iload hx hb dX3_sort_46 (lv_at hl 5 rfl) ?_
              refine lv_iconst (v := 1) hx hb dX3_sort_48 (by decide) ?_
              refine lv_isub hx hb dX3_sort_49 ?_
              obtain ⟨hi_49, hf⟩ := ckI_el hf
              refine va_iald hx hb hK hP 2 1 rfl rfl hi_49 dX3_sort_50 ?_
              refine lv_iload hx hb dX3_sort_51 (lv_at hl 4 rfl) ?_
              refine lv_icmp_le (tgt := 94) hx hb dX3_sort_53 (by decide) (fun c_50 => ?_) (fun c_50 => ?_)
              · have hf := x_t c_50 hf
                exact kx_37 cl_42 ke_43 z5_44 (Option.some.inj hf).symm _ _ _ hP hD hS (lv_sub hl [0, 1, 2, 3, 4, 5] rfl)
              · have hf := x_f c_50 hf
                refine lv_aload_n hx hb dX3_sort_56 rfl (lv_at hl 0 rfl) ?_
                refine x_get hx hb (C := RX3) (T := TX3) (N := 3) (ci := 3) hts iX3 hown hK hP 0 rfl rfl 2 (by decide) wd7 rfl (.ref a2) rfl dX3_sort_57 ?_
                refine lv_iload hx hb dX3_sort_60 (lv_at hl 5 rfl) ?_
                refine lv_aload_n hx hb dX3_sort_62 rfl (lv_at hl 0 rfl) ?_
                refine x_get hx hb (C := RX3) (T := TX3) (N := 3) (ci := 3) hts iX3 hown hK hP 0 rfl rfl 2 (by decide) wd7 rfl (.ref a2) rfl dX3_sort_63 ?_
                refine lv_iload hx hb dX3_sort_66 (lv_at hl 5 rfl) ?_
                refine lv_iconst (v := 1) hx hb dX3_sort_68 (by decide) ?_
                refine lv_isub hx hb dX3_sort_69 ?_
                obtain ⟨hi_51, hf⟩ := ckI_el hf
                refine va_iald hx hb hK hP 2 1 rfl rfl hi_51 dX3_sort_70 ?_
                obtain ⟨hi_52, hf⟩ := ckI_el hf
                obtain ⟨ke_53, eke_53, hf⟩ := lt_el hf
                refine x_iast hx hb hK hP hD hS 2 rfl hi_52 eke_53 (w' := wX3 cy a0 a1 a2 mn_1 cl_42 ke_53 ++ wX5 cy b0 b1 b2 b3 b4 b5 b6 b7 b8 b9 b10 b11 oAsz oAnu oAba oAmo oAco oHsz oHla oHce oBsz oBla oBce oTma oTlc oTtc oday olim olow ohig othr ooff ocre orcp opay) rfl dX3_sort_71 (fun H locs hP hD hS => ?_)
                refine lv_aload_n hx hb dX3_sort_72 rfl (lv_at hl 0 rfl) ?_
                refine x_get hx hb (C := RX3) (T := TX3) (N := 3) (ci := 3) hts iX3 hown hK hP 0 rfl rfl 1 (by decide) wd8 rfl (.ref a1) rfl dX3_sort_73 ?_
                refine lv_iload hx hb dX3_sort_76 (lv_at hl 5 rfl) ?_
                refine lv_aload_n hx hb dX3_sort_78 rfl (lv_at hl 0 rfl) ?_
                refine x_get hx hb (C := RX3) (T := TX3) (N := 3) (ci := 3) hts iX3 hown hK hP 0 rfl rfl 1 (by decide) wd8 rfl (.ref a1) rfl dX3_sort_79 ?_
                refine lv_iload hx hb dX3_sort_82 (lv_at hl 5 rfl) ?_
                refine lv_iconst (v := 1) hx hb dX3_sort_84 (by decide) ?_
                refine lv_isub hx hb dX3_sort_85 ?_
                obtain ⟨hi_54, hf⟩ := ckI_el hf
                refine va_iald hx hb hK hP 1 1 rfl rfl hi_54 dX3_sort_86 ?_
                obtain ⟨hi_55, hf⟩ := ckI_el hf
                obtain ⟨cl_56, ecl_56, hf⟩ := lt_el hf
                refine x_iast hx hb hK hP hD hS 1 rfl hi_55 ecl_56 (w' := wX3 cy a0 a1 a2 mn_1 cl_56 ke_53 ++ wX5 cy b0 b1 b2 b3 b4 b5 b6 b7 b8 b9 b10 b11 oAsz oAnu oAba oAmo oAco oHsz oHla oHce oBsz oBla oBce oTma oTlc oTtc oday olim olow ohig othr ooff ocre orcp opay) rfl dX3_sort_87 (fun H locs hP hD hS => ?_)
                refine lv_iinc (v := (z5_44 + (-1))) (lv' := [(5, .int (z5_44 + (-1))), (0, .ref a0), (1, .ref b0), (2, .int p2), (3, .int z3_27), (4, .int r_31)]) hx hb dX3_sort_88 hl (k := 5) rfl rfl (by decide) rfl (fun ls hl => ?_)
                refine lv_goto (tgt := 37) hx hb dX3_sort_91 (by decide) ?_
                exact ih cl_56 ke_53 (z5_44 + (-1)) _ _ _ _ hf hP hD hS (lv_sub hl [1, 2, 3, 4, 5, 0] rfl) hr_37 kx_37
        obtain ⟨cl_33, ke_34, x5_35, h1_37, hf⟩ := bd3_el hf
        refine hL_37 2147483648 cl_25 ke_26 z3_27 _ _ _ _ h1_37 hP hD hS (lv_sub hl [2, 3, 4, 5, 1, 0] rfl) trivial (fun cl_339 ke_349 x5_359 ho H locs ls hP hD hS hl => ?_)
        cases ho
        refine lv_aload_n hx hb dX3_sort_94 rfl (lv_at hl 0 rfl) ?_
        refine x_get hx hb (C := RX3) (T := TX3) (N := 3) (ci := 3) hts iX3 hown hK hP 0 rfl rfl 2 (by decide) wd7 rfl (.ref a2) rfl dX3_sort_95 ?_
        refine lv_iload hx hb dX3_sort_98 (lv_at hl 5 rfl) ?_
        refine lv_iload hx hb dX3_sort_100 (lv_at hl 4 rfl) ?_
        obtain ⟨hi_36, hf⟩ := ckI_el hf
        obtain ⟨ke_37, eke_37, hf⟩ := lt_el hf
        refine x_iast hx hb hK hP hD hS 2 rfl hi_36 eke_37 (w' := wX3 cy a0 a1 a2 mn_1 cl_33 ke_37 ++ wX5 cy b0 b1 b2 b3 b4 b5 b6 b7 b8 b9 b10 b11 oAsz oAnu oAba oAmo oAco oHsz oHla oHce oBsz oBla oBce oTma oTlc oTtc oday olim olow ohig othr ooff ocre orcp opay) rfl dX3_sort_102 (fun H locs hP hD hS => ?_)
        refine lv_aload_n hx hb dX3_sort_103 rfl (lv_at hl 0 rfl) ?_
        refine x_get hx hb (C := RX3) (T := TX3) (N := 3) (ci := 3) hts iX3 hown hK hP 0 rfl rfl 1 (by decide) wd8 rfl (.ref a1) rfl dX3_sort_104 ?_
        refine lv_iload hx hb dX3_sort_107 (lv_at hl 5 rfl) ?_
        refine lv_aload_n hx hb dX3_sort_109 rfl (lv_at hl 1 rfl) ?_
        refine x_get hx hb (C := RX5) (T := TX5) (N := 13) (ci := 5) hts iX5 hown hK hP 3 rfl rfl 0 (by decide) wd0 rfl (.ref b1) rfl dX3_sort_110 ?_
        refine lv_iload_n hx hb dX3_sort_113 rfl (lv_at hl 3 rfl) ?_
        obtain ⟨r_38, h_39, hf⟩ := bd1_el hf
        refine x_callVi (As := [.int z3_27]) (rest := [.int x5_35, .ref a1]) ⟨hx, hb, hml, hown, hts⟩ (mX0_numberAt l D cy b1 b2 b3 b4 b5 oAsz oAnu oAba oAmo oAco z3_27 r_38 h_39) (cwV 1 hts (gcV_X0_numberAt hbg wm_21_0) rfl rfl rfl kdX0_numberAt ⟨Nat.le_of_ble_eq_true rfl, Nat.le_of_ble_eq_true rfl⟩) (w1 := wX3 cy a0 a1 a2 mn_1 cl_33 ke_37 ++ ([(b0, .inr (5, [.ref b1, .ref b6, .ref b8, .ref b10, .int oday, .int olim, .int olow, .int ohig, .int othr, .long ooff, .long ocre, .long orcp, .long opay]))])) (w2 := wX4 cy b6 b7 oHsz oHla oHce ++ (wX4 cy b8 b9 oBsz oBla oBce ++ (wX6 cy b10 b11 oTma oTlc oTtc))) (w' := wX3 cy a0 a1 a2 mn_1 cl_33 ke_37 ++ wX5 cy b0 b1 b2 b3 b4 b5 b6 b7 b8 b9 b10 b11 oAsz oAnu oAba oAmo oAco oHsz oHla oHce oBsz oBla oBce oTma oTlc oTtc oday olim olow ohig othr ooff ocre orcp opay) rfl rfl hP hK hD hN hS hA (q0 := 0) rfl rfl rfl rfl hl rfl (Nat.le_of_ble_eq_true rfl) dX3_sort_114 ⟨Nat.zero_le _, Nat.zero_le _⟩ (fun H locs hP hD hS => ?_)
        obtain ⟨hi_40, hf⟩ := ckI_el hf
        obtain ⟨cl_41, ecl_41, hf⟩ := lt_el hf
        refine x_iast hx hb hK hP hD hS 1 rfl hi_40 ecl_41 (w' := wX3 cy a0 a1 a2 mn_1 cl_41 ke_37 ++ wX5 cy b0 b1 b2 b3 b4 b5 b6 b7 b8 b9 b10 b11 oAsz oAnu oAba oAmo oAco oHsz oHla oHce oBsz oBla oBce oTma oTlc oTtc oday olim olow ohig othr ooff ocre orcp opay) rfl dX3_sort_117 (fun H locs hP hD hS => ?_)
        refine lv_iinc (v := (z3_27 + 1)) (lv' := [(3, .int (z3_27 + 1)), (0, .ref a0), (1, .ref b0), (2, .int p2), (4, .int r_31), (5, .int x5_35)]) hx hb dX3_sort_118 hl (k := 3) rfl rfl (by decide) rfl (fun ls hl => ?_)
        refine lv_goto (tgt := 18) hx hb dX3_sort_121 (by decide) ?_
        exact ih cl_41 ke_37 (z3_27 + 1) _ _ _ _ hf hP hD hS (lv_sub hl [1, 2, 3, 0] rfl) hr_18 kx_18
  obtain ⟨cl_23, ke_24, h1_18, hf⟩ := bd2_el hf
  refine hL_18 2147483648 cl ke 0 _ _ _ _ h1_18 hP hD hS (lv_sub hl [1, 2, 3, 0] rfl) trivial (fun cl_239 ke_249 ho H locs ls hP hD hS hl => ?_)
  cases ho
  have hf := Option.some.inj hf
  cases hf
  exact x_vret hx hb hr hlocks hK hP hD hS dX3_sort_124
theorem kdX3_clientAt : yX3_clientAt.cls = RX3 ∧ yX3_clientAt.cls ≠ "java/lang/invoke/MethodHandle" ∧ yX3_clientAt.cls ≠ "java/lang/invoke/VarHandle" ∧ (parseMethodDescriptor yX3_clientAt.desc).map (fun d => d.parameters.length) = some 1 := by decide +kernel
def rmX3_clientAt : Room := { frames := 0, cells := 0, slots := 0, locals := 0 }
set_option maxHeartbeats 4000000 in
set_option maxRecDepth 100000 in
theorem mX3_clientAt (l : Launch) (D : va_G) (cy : Nat → ClassId) (a0 a1 a2 : Nat) (sz : Int32) (cl : Nat → Int32) (ke : Nat → Int32) (p1 : Int32) (r : Int32) (hf : fX3_clientAt sz cl p1 = some r) : xMi l D cy yX3_clientAt aX3_clientAt rmX3_clientAt ([.ref a0, .int p1] : List Value) (wX3 cy a0 a1 a2 sz cl ke) (wX3 cy a0 a1 a2 sz cl ke) r := by
  intro hz
  refine x_start (Qc := xQi D cy _ r) (cc := cX3_clientAt) (maxL := 2) (ret := (some .int)) (by decide) rfl (Nat.le_of_ble_eq_true rfl) (lv := [(0, .ref a0), (1, .int p1)]) rfl ?_
  intro p e s m below meth c ls A hx hb hr hml hown hts hlocks hK hP hD hS hA hN hl
  have hown : s.vm.findClass RX3 = some m.cls := hown
  have hbg : ∀ w ∈ wsL_law, w ∈ aX3_clientAt := fun w h => List.mem_cons_of_mem _ h
  have wd0 : (Cond.fieldLink RX3 9 "ClientMoneyBook$Ranking" "size" "I").before ([.ref a0, .int p1] : List Value).toArray s = true := hts _ (List.mem_cons_of_mem _ wm_4_10)
  have wd1 : (Cond.fieldLink RX3 15 "ClientMoneyBook$Ranking" "clients" "[I").before ([.ref a0, .int p1] : List Value).toArray s = true := hts _ (List.mem_cons_of_mem _ wm_4_11)
  have iX3 : ∀ w ∈ u_ws RX3 TX3 3, w ∈ aX3_clientAt := fun w h => List.mem_cons_of_mem _ (inlX3 w h)
  unfold fX3_clientAt at hf
  refine lv_iload_n hx hb dX3_clientAt_0 rfl (lv_at hl 1 rfl) ?_
  refine lv_if_lt (tgt := 27) hx hb dX3_clientAt_1 (by decide) (fun c_1 => ?_) (fun c_1 => ?_)
  · have hf := x_t c_1 hf
    refine lv_iconst (v := (-1)) hx hb dX3_clientAt_27 (by decide) ?_
    have hf := Option.some.inj hf
    cases hf
    exact x_iret hx hb hr hlocks hK hP hD hS dX3_clientAt_28
  · have hf := x_f c_1 hf
    refine lv_iload_n hx hb dX3_clientAt_4 rfl (lv_at hl 1 rfl) ?_
    refine lv_aload_n hx hb dX3_clientAt_5 rfl (lv_at hl 0 rfl) ?_
    refine x_get hx hb (C := RX3) (T := TX3) (N := 3) (ci := 3) hts iX3 hown hK hP 0 rfl rfl 0 (by decide) wd0 rfl (.int sz) rfl dX3_clientAt_6 ?_
    refine lv_icmp_ge (tgt := 27) hx hb dX3_clientAt_9 (by decide) (fun c_2 => ?_) (fun c_2 => ?_)
    · have hf := x_t c_2 hf
      refine lv_iconst (v := (-1)) hx hb dX3_clientAt_27 (by decide) ?_
      have hf := Option.some.inj hf
      cases hf
      exact x_iret hx hb hr hlocks hK hP hD hS dX3_clientAt_28
    · have hf := x_f c_2 hf
      refine lv_iload_n hx hb dX3_clientAt_12 rfl (lv_at hl 1 rfl) ?_
      refine lv_bipush (v := 12) hx hb dX3_clientAt_13 (by decide) ?_
      refine lv_icmp_ge (tgt := 27) hx hb dX3_clientAt_15 (by decide) (fun c_3 => ?_) (fun c_3 => ?_)
      · have hf := x_t c_3 hf
        refine lv_iconst (v := (-1)) hx hb dX3_clientAt_27 (by decide) ?_
        have hf := Option.some.inj hf
        cases hf
        exact x_iret hx hb hr hlocks hK hP hD hS dX3_clientAt_28
      · have hf := x_f c_3 hf
        refine lv_aload_n hx hb dX3_clientAt_18 rfl (lv_at hl 0 rfl) ?_
        refine x_get hx hb (C := RX3) (T := TX3) (N := 3) (ci := 3) hts iX3 hown hK hP 0 rfl rfl 1 (by decide) wd1 rfl (.ref a1) rfl dX3_clientAt_19 ?_
        refine lv_iload_n hx hb dX3_clientAt_22 rfl (lv_at hl 1 rfl) ?_
        obtain ⟨hi_4, hf⟩ := ckI_el hf
        refine va_iald hx hb hK hP 1 1 rfl rfl hi_4 dX3_clientAt_23 ?_
        refine lv_goto (tgt := 28) hx hb dX3_clientAt_24 (by decide) ?_
        have hf := Option.some.inj hf
        cases hf
        exact x_iret hx hb hr hlocks hK hP hD hS dX3_clientAt_28
