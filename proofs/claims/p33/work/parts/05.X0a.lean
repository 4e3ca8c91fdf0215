theorem kdX0_copyFrom : yX0_copyFrom.cls = RX0 ∧ yX0_copyFrom.cls ≠ "java/lang/invoke/MethodHandle" ∧ yX0_copyFrom.cls ≠ "java/lang/invoke/VarHandle" ∧ (parseMethodDescriptor yX0_copyFrom.desc).map (fun d => d.parameters.length) = some 1 := by decide +kernel
def rmX0_copyFrom : Room := { frames := 1, cells := 0, slots := 0, locals := 48 }
set_option maxHeartbeats 4000000 in
set_option maxRecDepth 100000 in
theorem mX0_copyFrom (l : Launch) (D : va_G) (cy : Nat → ClassId) (a0 a1 a2 a3 a4 b0 b1 b2 b3 b4 : Nat) (sz : Int32) (nu : Nat → Int32) (ba : Nat → Int32) (mo : Nat → Int32) (co : Nat → Int64) (osz : Int32) (onu : Nat → Int32) (oba : Nat → Int32) (omo : Nat → Int32) (oco : Nat → Int64)  (sz' : Int32) (nu' : Nat → Int32) (ba' : Nat → Int32) (mo' : Nat → Int32) (co' : Nat → Int64) (hf : fX0_copyFrom sz nu ba mo co osz onu oba omo oco = some (sz', nu', ba', mo', co')) : xMv l D cy yX0_copyFrom aX0_copyFrom rmX0_copyFrom ([.ref a0, .ref b0] : List Value) (wX0 cy a0 a1 a2 a3 a4 sz nu ba mo co ++ wX0 cy b0 b1 b2 b3 b4 osz onu oba omo oco) (wX0 cy a0 a1 a2 a3 a4 sz' nu' ba' mo' co' ++ wX0 cy b0 b1 b2 b3 b4 osz onu oba omo oco) := by
  intro hz
  refine x_start (Qc := xQv D cy _) (cc := cX0_copyFrom) (maxL := 2) (ret := none) (by decide) rfl (Nat.le_of_ble_eq_true rfl) (lv := [(0, .ref a0), (1, .ref b0)]) rfl ?_
  intro p e s m below meth c ls A hx hb hr hml hown hts hlocks hK hP hD hS hA hN hl
  have hown : s.vm.findClass RX0 = some m.cls := hown
  have hbg : ∀ w ∈ wsL_law, w ∈ aX0_copyFrom := fun w h => List.mem_cons_of_mem _ h
  have wd0 : (Cond.fieldLink RX0 9 "ClientMoneyBook$Accounts" "size" "I").before ([.ref a0, .ref b0] : List Value).toArray s = true := hts _ (List.mem_cons_of_mem _ wm_2_19)
  have wd1 : (Cond.fieldLink RX0 15 "ClientMoneyBook$Accounts" "number" "[I").before ([.ref a0, .ref b0] : List Value).toArray s = true := hts _ (List.mem_cons_of_mem _ wm_2_20)
  have wd2 : (Cond.methodLink RX0 29 arraycopyName).before ([.ref a0, .ref b0] : List Value).toArray s = true := hts _ (List.mem_cons_of_mem _ wm_5_19)
  have wd3 : (Cond.native arraycopyName).before ([.ref a0, .ref b0] : List Value).toArray s = true := hts _ (List.mem_cons_of_mem _ wm_5_20)
  have wd4 : (Cond.static arraycopyName).before ([.ref a0, .ref b0] : List Value).toArray s = true := hts _ (List.mem_cons_of_mem _ wm_5_21)
  have wd5 : (Cond.initialized "java/lang/System").before ([.ref a0, .ref b0] : List Value).toArray s = true := hts _ (List.mem_cons_of_mem _ wm_5_22)
  have wd6 : (Cond.fieldLink RX0 19 "ClientMoneyBook$Accounts" "balance" "[I").before ([.ref a0, .ref b0] : List Value).toArray s = true := hts _ (List.mem_cons_of_mem _ wm_2_21)
  have wd7 : (Cond.fieldLink RX0 22 "ClientMoneyBook$Accounts" "moved" "[I").before ([.ref a0, .ref b0] : List Value).toArray s = true := hts _ (List.mem_cons_of_mem _ wm_2_22)
  have wd8 : (Cond.fieldLink RX0 25 "ClientMoneyBook$Accounts" "count" "[J").before ([.ref a0, .ref b0] : List Value).toArray s = true := hts _ (List.mem_cons_of_mem _ wm_2_23)
  have iX0 : ∀ w ∈ u_ws RX0 TX0 5, w ∈ aX0_copyFrom := fun w h => List.mem_cons_of_mem _ (inlX0 w h)
  unfold fX0_copyFrom at hf
  refine lv_aload_n hx hb dX0_copyFrom_0 rfl (lv_at hl 0 rfl) ?_
  refine lv_aload_n hx hb dX0_copyFrom_1 rfl (lv_at hl 1 rfl) ?_
  refine x_get hx hb (C := RX0) (T := TX0) (N := 5) (ci := 0) hts iX0 hown hK hP 5 rfl rfl 0 (by decide) wd0 rfl (.int osz) rfl dX0_copyFrom_2 ?_
  refine x_put hx hb (C := RX0) (T := TX0) (N := 5) (ci := 0) hts iX0 tyX0 tyX0_ok nmX0 hown hK hP hD hS 0 rfl rfl 0 (by decide) wd0 rfl rfl (ty := .int) rfl rfl rfl (Nat.le_of_ble_eq_true rfl) (w' := wX0 cy a0 a1 a2 a3 a4 osz nu ba mo co ++ wX0 cy b0 b1 b2 b3 b4 osz onu oba omo oco) rfl dX0_copyFrom_5 (fun H locs hP hD hS => ?_)
  refine lv_aload_n hx hb dX0_copyFrom_8 rfl (lv_at hl 1 rfl) ?_
  refine x_get hx hb (C := RX0) (T := TX0) (N := 5) (ci := 0) hts iX0 hown hK hP 5 rfl rfl 1 (by decide) wd1 rfl (.ref b1) rfl dX0_copyFrom_9 ?_
  refine lv_iconst (v := 0) hx hb dX0_copyFrom_12 (by decide) ?_
  refine lv_aload_n hx hb dX0_copyFrom_13 rfl (lv_at hl 0 rfl) ?_
  refine x_get hx hb (C := RX0) (T := TX0) (N := 5) (ci := 0) hts iX0 hown hK hP 0 rfl rfl 1 (by decide) wd1 rfl (.ref a1) rfl dX0_copyFrom_14 ?_
  refine lv_iconst (v := 0) hx hb dX0_copyFrom_17 (by decide) ?_
  refine lv_bipush (v := 12) hx hb dX0_copyFrom_18 (by decide) ?_
  refine x_copyi hx hb (hml.trans hl.1.symm) hown wd2 wd3 wd4 wd5 hK hP hD hS 6 1 (N := 12) rfl rfl rfl rfl ⟨by decide, rfl⟩ (Nat.le_of_ble_eq_true rfl) (Nat.le_of_ble_eq_true rfl) (w' := wX0 cy a0 a1 a2 a3 a4 osz onu ba mo co ++ wX0 cy b0 b1 b2 b3 b4 osz onu oba omo oco) rfl dX0_copyFrom_20 (fun H locs hP hD hS => ?_)
  refine lv_aload_n hx hb dX0_copyFrom_23 rfl (lv_at hl 1 rfl) ?_
  refine x_get hx hb (C := RX0) (T := TX0) (N := 5) (ci := 0) hts iX0 hown hK hP 5 rfl rfl 2 (by decide) wd6 rfl (.ref b2) rfl dX0_copyFrom_24 ?_
  refine lv_iconst (v := 0) hx hb dX0_copyFrom_27 (by decide) ?_
  refine lv_aload_n hx hb dX0_copyFrom_28 rfl (lv_at hl 0 rfl) ?_
  refine x_get hx hb (C := RX0) (T := TX0) (N := 5) (ci := 0) hts iX0 hown hK hP 0 rfl rfl 2 (by decide) wd6 rfl (.ref a2) rfl dX0_copyFrom_29 ?_
  refine lv_iconst (v := 0) hx hb dX0_copyFrom_32 (by decide) ?_
  refine lv_bipush (v := 12) hx hb dX0_copyFrom_33 (by decide) ?_
  refine x_copyi hx hb (hml.trans hl.1.symm) hown wd2 wd3 wd4 wd5 hK hP hD hS 7 2 (N := 12) rfl rfl rfl rfl ⟨by decide, rfl⟩ (Nat.le_of_ble_eq_true rfl) (Nat.le_of_ble_eq_true rfl) (w' := wX0 cy a0 a1 a2 a3 a4 osz onu oba mo co ++ wX0 cy b0 b1 b2 b3 b4 osz onu oba omo oco) rfl dX0_copyFrom_35 (fun H locs hP hD hS => ?_)
  refine lv_aload_n hx hb dX0_copyFrom_38 rfl (lv_at hl 1 rfl) ?_
  refine x_get hx hb (C := RX0) (T := TX0) (N := 5) (ci := 0) hts iX0 hown hK hP 5 rfl rfl 3 (by decide) wd7 rfl (.ref b3) rfl dX0_copyFrom_39 ?_
  refine lv_iconst (v := 0) hx hb dX0_copyFrom_42 (by decide) ?_
  refine lv_aload_n hx hb dX0_copyFrom_43 rfl (lv_at hl 0 rfl) ?_
  refine x_get hx hb (C := RX0) (T := TX0) (N := 5) (ci := 0) hts iX0 hown hK hP 0 rfl rfl 3 (by decide) wd7 rfl (.ref a3) rfl dX0_copyFrom_44 ?_
  refine lv_iconst (v := 0) hx hb dX0_copyFrom_47 (by decide) ?_
  refine lv_bipush (v := 12) hx hb dX0_copyFrom_48 (by decide) ?_
  refine x_copyi hx hb (hml.trans hl.1.symm) hown wd2 wd3 wd4 wd5 hK hP hD hS 8 3 (N := 12) rfl rfl rfl rfl ⟨by decide, rfl⟩ (Nat.le_of_ble_eq_true rfl) (Nat.le_of_ble_eq_true rfl) (w' := wX0 cy a0 a1 a2 a3 a4 osz onu oba omo co ++ wX0 cy b0 b1 b2 b3 b4 osz onu oba omo oco) rfl dX0_copyFrom_50 (fun H locs hP hD hS => ?_)
  refine lv_aload_n hx hb dX0_copyFrom_53 rfl (lv_at hl 1 rfl) ?_
  refine x_get hx hb (C := RX0) (T := TX0) (N := 5) (ci := 0) hts iX0 hown hK hP 5 rfl rfl 4 (by decide) wd8 rfl (.ref b4) rfl dX0_copyFrom_54 ?_
  refine lv_iconst (v := 0) hx hb dX0_copyFrom_57 (by decide) ?_
  refine lv_aload_n hx hb dX0_copyFrom_58 rfl (lv_at hl 0 rfl) ?_
  refine x_get hx hb (C := RX0) (T := TX0) (N := 5) (ci := 0) hts iX0 hown hK hP 0 rfl rfl 4 (by decide) wd8 rfl (.ref a4) rfl dX0_copyFrom_59 ?_
  refine lv_iconst (v := 0) hx hb dX0_copyFrom_62 (by decide) ?_
  refine lv_bipush (v := 12) hx hb dX0_copyFrom_63 (by decide) ?_
  refine x_copyl hx hb (hml.trans hl.1.symm) hown wd2 wd3 wd4 wd5 hK hP hD hS 9 4 (N := 12) rfl rfl rfl rfl ⟨by decide, rfl⟩ (Nat.le_of_ble_eq_true rfl) (Nat.le_of_ble_eq_true rfl) (w' := wX0 cy a0 a1 a2 a3 a4 osz onu oba omo oco ++ wX0 cy b0 b1 b2 b3 b4 osz onu oba omo oco) rfl dX0_copyFrom_65 (fun H locs hP hD hS => ?_)
  have hf := Option.some.inj hf
  cases hf
  exact x_vret hx hb hr hlocks hK hP hD hS dX0_copyFrom_68
theorem kdX0_find : yX0_find.cls = RX0 ∧ yX0_find.cls ≠ "java/lang/invoke/MethodHandle" ∧ yX0_find.cls ≠ "java/lang/invoke/VarHandle" ∧ (parseMethodDescriptor yX0_find.desc).map (fun d => d.parameters.length) = some 1 := by decide +kernel
def rmX0_find : Room := { frames := 0, cells := 0, slots := 0, locals := 0 }
set_option maxHeartbeats 4000000 in
set_option maxRecDepth 100000 in
theorem mX0_find (l : Launch) (D : va_G) (cy : Nat → ClassId) (a0 a1 a2 a3 a4 : Nat) (sz : Int32) (nu : Nat → Int32) (ba : Nat → Int32) (mo : Nat → Int32) (co : Nat → Int64) (p1 : Int32) (r : Int32) (hf : fX0_find sz nu p1 = some r) : xMi l D cy yX0_find aX0_find rmX0_find ([.ref a0, .int p1] : List Value) (wX0 cy a0 a1 a2 a3 a4 sz nu ba mo co) (wX0 cy a0 a1 a2 a3 a4 sz nu ba mo co) r := by
  intro hz
  refine x_start (Qc := xQi D cy _ r) (cc := cX0_find) (maxL := 3) (ret := (some .int)) (by decide) rfl (Nat.le_of_ble_eq_true rfl) (lv := [(0, .ref a0), (1, .int p1)]) rfl ?_
  intro p e s m below meth c ls A hx hb hr hml hown hts hlocks hK hP hD hS hA hN hl
  have hown : s.vm.findClass RX0 = some m.cls := hown
  have hbg : ∀ w ∈ wsL_law, w ∈ aX0_find := fun w h => List.mem_cons_of_mem _ h
  have wd0 : (Cond.fieldLink RX0 9 "ClientMoneyBook$Accounts" "size" "I").before ([.ref a0, .int p1] : List Value).toArray s = true := hts _ (List.mem_cons_of_mem _ wm_2_19)
  have wd1 : (Cond.fieldLink RX0 15 "ClientMoneyBook$Accounts" "number" "[I").before ([.ref a0, .int p1] : List Value).toArray s = true := hts _ (List.mem_cons_of_mem _ wm_2_20)
  have iX0 : ∀ w ∈ u_ws RX0 TX0 5, w ∈ aX0_find := fun w h => List.mem_cons_of_mem _ (inlX0 w h)
  unfold fX0_find at hf
  refine lv_iconst (v := 0) hx hb dX0_find_0 (by decide) ?_
  refine lv_istore_n (lv' := [(2, .int 0), (0, .ref a0), (1, .int p1)]) hx hb dX0_find_1 rfl hl (by decide) rfl (fun ls hl => ?_)
  have hL_2 : ∀ (n : Nat) (z2_5 : Int32) (o : (Int32) ⊕ (Unit)) (H : Heap) (locs : List Loc) (ls : Array Slot), fX0_find_L2 sz nu p1 n z2_5 = some o → va_P D vwCl (wX0 cy a0 a1 a2 a3 a4 sz nu ba mo co) H → va_D A (wX0 cy a0 a1 a2 a3 a4 sz nu ba mo co) → va_S A s.heap H locs → lv_has ls 3 [(0, .ref a0), (1, .int p1), (2, .int z2_5)] → (∀ r', o = .inl r' → r' = r) → ((o = (.inr ()) → ∀ (H : Heap) (locs : List Loc) (ls : Array Slot), va_P D vwCl (wX0 cy a0 a1 a2 a3 a4 sz nu ba mo co) H → va_D A (wX0 cy a0 a1 a2 a3 a4 sz nu ba mo co) → va_S A s.heap H locs → lv_has ls 3 [] →  W p l e rmX0_find s m ([.ref a0, .int p1] : List Value).toArray below meth c H locs 0 0 (MQ below (xQi D cy (wX0 cy a0 a1 a2 a3 a4 sz nu ba mo co) r A) ([.ref a0, .int p1] : List Value).toArray s 0 0 A) (F0 m 34 ls []))) → W p l e rmX0_find s m ([.ref a0, .int p1] : List Value).toArray below meth c H locs 0 0 (MQ below (xQi D cy (wX0 cy a0 a1 a2 a3 a4 sz nu ba mo co) r A) ([.ref a0, .int p1] : List Value).toArray s 0 0 A) (F0 m 2 ls []) := by
    intro n
    induction n with
    | zero =>
      intro z2_5 o_2 H locs ls hf
      rw [fX0_find_L2] at hf
      cases hf
    | succ n ih =>
      intro z2_5 o_2 H locs ls hf hP hD hS hl hr_2 kx_2
      rw [fX0_find_L2] at hf
      refine lv_iload_n hx hb dX0_find_2 rfl (lv_at hl 2 rfl) ?_
      refine lv_aload_n hx hb dX0_find_3 rfl (lv_at hl 0 rfl) ?_
      refine x_get hx hb (C := RX0) (T := TX0) (N := 5) (ci := 0) hts iX0 hown hK hP 0 rfl rfl 0 (by decide) wd0 rfl (.int sz) rfl dX0_find_4 ?_
      refine lv_icmp_ge (tgt := 34) hx hb dX0_find_7 (by decide) (fun c_6 => ?_) (fun c_6 => ?_)
      · have hf := x_t c_6 hf
        exact kx_2 (Option.some.inj hf).symm _ _ _ hP hD hS (lv_sub hl [] rfl)
      · have hf := x_f c_6 hf
        refine lv_iload_n hx hb dX0_find_10 rfl (lv_at hl 2 rfl) ?_
        refine lv_bipush (v := 12) hx hb dX0_find_11 (by decide) ?_
        refine lv_icmp_ge (tgt := 34) hx hb dX0_find_13 (by decide) (fun c_7 => ?_) (fun c_7 => ?_)
        · have hf := x_t c_7 hf
          exact kx_2 (Option.some.inj hf).symm _ _ _ hP hD hS (lv_sub hl [] rfl)
        · have hf := x_f c_7 hf
          refine lv_aload_n hx hb dX0_find_16 rfl (lv_at hl 0 rfl) ?_
          refine x_get hx hb (C := RX0) (T := TX0) (N := 5) (ci := 0) hts iX0 hown hK hP 0 rfl rfl 1 (by decide) wd1 rfl (.ref a1) rfl dX0_find_17 ?_
          refine lv_iload_n hx hb dX0_find_20 rfl (lv_at hl 2 rfl) ?_
          obtain ⟨hi_8, hf⟩ := ckI_el hf
          refine va_iald hx hb hK hP 1 1 rfl rfl hi_8 dX0_find_21 ?_
          refine lv_iload_n hx hb dX0_find_22 rfl (lv_at hl 1 rfl) ?_
          refine lv_icmp_ne (tgt := 28) hx hb dX0_find_23 (by decide) (fun c_9 => ?_) (fun c_9 => ?_)
          · have hf := x_f c_9 hf
            refine lv_iinc (v := (z2_5 + 1)) (lv' := [(2, .int (z2_5 + 1)), (0, .ref a0), (1, .int p1)]) hx hb dX0_find_28 hl (k := 2) rfl rfl (by decide) rfl (fun ls hl => ?_)
            refine lv_goto (tgt := 2) hx hb dX0_find_31 (by decide) ?_
            exact ih (z2_5 + 1) _ _ _ _ hf hP hD hS (lv_sub hl [1, 2, 0] rfl) hr_2 kx_2
          · have hf := x_t c_9 hf
            refine lv_iload_n hx hb dX0_find_26 rfl (lv_at hl 2 rfl) ?_
            have hf := Option.some.inj hf
            have hf := (hr_2 _ hf.symm)
            cases hf
            exact x_iret hx hb hr hlocks hK hP hD hS dX0_find_27
  obtain ⟨o_2, h1_2, hr_2, hf⟩ := bs0_el hf
  refine hL_2 2147483648 0 o_2 _ _ _ h1_2 hP hD hS (lv_sub hl [1, 2, 0] rfl) hr_2 (fun  ho H locs ls hP hD hS hl => ?_)
  have hf := hf () ho
  refine lv_iconst (v := (-1)) hx hb dX0_find_34 (by decide) ?_
  have hf := Option.some.inj hf
  cases hf
  exact x_iret hx hb hr hlocks hK hP hD hS dX0_find_35
theorem kdX0_isPlace : yX0_isPlace.cls = RX0 ∧ yX0_isPlace.cls ≠ "java/lang/invoke/MethodHandle" ∧ yX0_isPlace.cls ≠ "java/lang/invoke/VarHandle" ∧ (parseMethodDescriptor yX0_isPlace.desc).map (fun d => d.parameters.length) = some 1 := by decide +kernel
def rmX0_isPlace : Room := { frames := 0, cells := 0, slots := 0, locals := 0 }
set_option maxHeartbeats 4000000 in
set_option maxRecDepth 100000 in
theorem mX0_isPlace (l : Launch) (D : va_G) (cy : Nat → ClassId) (a0 a1 a2 a3 a4 : Nat) (sz : Int32) (nu : Nat → Int32) (ba : Nat → Int32) (mo : Nat → Int32) (co : Nat → Int64) (p1 : Int32) (r : Int32) (hf : fX0_isPlace sz p1 = some r) : xMi l D cy yX0_isPlace aX0_isPlace rmX0_isPlace ([.ref a0, .int p1] : List Value) (wX0 cy a0 a1 a2 a3 a4 sz nu ba mo co) (wX0 cy a0 a1 a2 a3 a4 sz nu ba mo co) r := by
  intro hz
  refine x_start (Qc := xQi D cy _ r) (cc := cX0_isPlace) (maxL := 2) (ret := (some .boolean)) (by decide) rfl (Nat.le_of_ble_eq_true rfl) (lv := [(0, .ref a0), (1, .int p1)]) rfl ?_
  intro p e s m below meth c ls A hx hb hr hml hown hts hlocks hK hP hD hS hA hN hl
  have hown : s.vm.findClass RX0 = some m.cls := hown
  have hbg : ∀ w ∈ wsL_law, w ∈ aX0_isPlace := fun w h => List.mem_cons_of_mem _ h
  have wd0 : (Cond.fieldLink RX0 9 "ClientMoneyBook$Accounts" "size" "I").before ([.ref a0, .int p1] : List Value).toArray s = true := hts _ (List.mem_cons_of_mem _ wm_2_19)
  have iX0 : ∀ w ∈ u_ws RX0 TX0 5, w ∈ aX0_isPlace := fun w h => List.mem_cons_of_mem _ (inlX0 w h)
  unfold fX0_isPlace at hf
  refine lv_iload_n hx hb dX0_isPlace_0 rfl (lv_at hl 1 rfl) ?_
  refine lv_if_lt (tgt := 22) hx hb dX0_isPlace_1 (by decide) (fun c_1 => ?_) (fun c_1 => ?_)
  · have hf := x_t c_1 hf
    refine lv_iconst (v := 0) hx hb dX0_isPlace_22 (by decide) ?_
    have hf := Option.some.inj hf
    cases hf
    exact x_zret hx hb hr hlocks hK hP hD hS rfl dX0_isPlace_23
  · have hf := x_f c_1 hf
    refine lv_iload_n hx hb dX0_isPlace_4 rfl (lv_at hl 1 rfl) ?_
    refine lv_aload_n hx hb dX0_isPlace_5 rfl (lv_at hl 0 rfl) ?_
    refine x_get hx hb (C := RX0) (T := TX0) (N := 5) (ci := 0) hts iX0 hown hK hP 0 rfl rfl 0 (by decide) wd0 rfl (.int sz) rfl dX0_isPlace_6 ?_
    refine lv_icmp_ge (tgt := 22) hx hb dX0_isPlace_9 (by decide) (fun c_2 => ?_) (fun c_2 => ?_)
    · have hf := x_t c_2 hf
      refine lv_iconst (v := 0) hx hb dX0_isPlace_22 (by decide) ?_
      have hf := Option.some.inj hf
      cases hf
      exact x_zret hx hb hr hlocks hK hP hD hS rfl dX0_isPlace_23
    · have hf := x_f c_2 hf
      refine lv_iload_n hx hb dX0_isPlace_12 rfl (lv_at hl 1 rfl) ?_
      refine lv_bipush (v := 12) hx hb dX0_isPlace_13 (by decide) ?_
      refine lv_icmp_ge (tgt := 22) hx hb dX0_isPlace_15 (by decide) (fun c_3 => ?_) (fun c_3 => ?_)
      · have hf := x_t c_3 hf
        refine lv_iconst (v := 0) hx hb dX0_isPlace_22 (by decide) ?_
        have hf := Option.some.inj hf
        cases hf
        exact x_zret hx hb hr hlocks hK hP hD hS rfl dX0_isPlace_23
      · have hf := x_f c_3 hf
        refine lv_iconst (v := 1) hx hb dX0_isPlace_18 (by decide) ?_
        refine lv_goto (tgt := 23) hx hb dX0_isPlace_19 (by decide) ?_
        have hf := Option.some.inj hf
        cases hf
        exact x_zret hx hb hr hlocks hK hP hD hS rfl dX0_isPlace_23
theorem kdX0_numberAt : yX0_numberAt.cls = RX0 ∧ yX0_numberAt.cls ≠ "java/lang/invoke/MethodHandle" ∧ yX0_numberAt.cls ≠ "java/lang/invoke/VarHandle" ∧ (parseMethodDescriptor yX0_numberAt.desc).map (fun d => d.parameters.length) = some 1 := by decide +kernel
def rmX0_numberAt : Room := { frames := 1, cells := 0, slots := 0, locals := 21 }
set_option maxHeartbeats 4000000 in
set_option maxRecDepth 100000 in
theorem mX0_numberAt (l : Launch) (D : va_G) (cy : Nat → ClassId) (a0 a1 a2 a3 a4 : Nat) (sz : Int32) (nu : Nat → Int32) (ba : Nat → Int32) (mo : Nat → Int32) (co : Nat → Int64) (p1 : Int32) (r : Int32) (hf : fX0_numberAt sz nu p1 = some r) : xMi l D cy yX0_numberAt aX0_numberAt rmX0_numberAt ([.ref a0, .int p1] : List Value) (wX0 cy a0 a1 a2 a3 a4 sz nu ba mo co) (wX0 cy a0 a1 a2 a3 a4 sz nu ba mo co) r := by
  intro hz
  refine x_start (Qc := xQi D cy _ r) (cc := cX0_numberAt) (maxL := 2) (ret := (some .int)) (by decide) rfl (Nat.le_of_ble_eq_true rfl) (lv := [(0, .ref a0), (1, .int p1)]) rfl ?_
  intro p e s m below meth c ls A hx hb hr hml hown hts hlocks hK hP hD hS hA hN hl
  have hown : s.vm.findClass RX0 = some m.cls := hown
  have hbg : ∀ w ∈ wsL_law, w ∈ aX0_numberAt := fun w h => List.mem_cons_of_mem _ h
  have wd0 : (Cond.fieldLink RX0 15 "ClientMoneyBook$Accounts" "number" "[I").before ([.ref a0, .int p1] : List Value).toArray s = true := hts _ (List.mem_cons_of_mem _ wm_2_20)
  have iX0 : ∀ w ∈ u_ws RX0 TX0 5, w ∈ aX0_numberAt := fun w h => List.mem_cons_of_mem _ (inlX0 w h)
  unfold fX0_numberAt at hf
  refine lv_aload_n hx hb dX0_numberAt_0 rfl (lv_at hl 0 rfl) ?_
  refine lv_iload_n hx hb dX0_numberAt_1 rfl (lv_at hl 1 rfl) ?_
  obtain ⟨r_1, h_2, hf⟩ := bd1_el hf
  refine x_callVi (As := [.int p1]) (rest := []) ⟨hx, hb, hml, hown, hts⟩ (mX0_isPlace l D cy a0 a1 a2 a3 a4 sz nu ba mo co p1 r_1 h_2) (cwV 1 hts (gcV_X0_isPlace hbg wm_7_2) rfl rfl rfl kdX0_isPlace ⟨Nat.le_of_ble_eq_true rfl, Nat.le_of_ble_eq_true rfl⟩) (w1 := []) (w2 := []) (w' := wX0 cy a0 a1 a2 a3 a4 sz nu ba mo co) (List.append_nil _) (List.append_nil _) hP hK hD hN hS hA (q0 := 0) rfl rfl rfl rfl hl rfl (Nat.le_of_ble_eq_true rfl) dX0_numberAt_2 ⟨Nat.zero_le _, Nat.zero_le _⟩ (fun H locs hP hD hS => ?_)
  refine lv_if_eq (tgt := 17) hx hb dX0_numberAt_5 (by decide) (fun c_3 => ?_) (fun c_3 => ?_)
  · have hf := x_t c_3 hf
    refine lv_iconst (v := 0) hx hb dX0_numberAt_17 (by decide) ?_
    have hf := Option.some.inj hf
    cases hf
    exact x_iret hx hb hr hlocks hK hP hD hS dX0_numberAt_18
  · have hf := x_f c_3 hf
    refine lv_aload_n hx hb dX0_numberAt_8 rfl (lv_at hl 0 rfl) ?_
    refine x_get hx hb (C := RX0) (T := TX0) (N := 5) (ci := 0) hts iX0 hown hK hP 0 rfl rfl 1 (by decide) wd0 rfl (.ref a1) rfl dX0_numberAt_9 ?_
    refine lv_iload_n hx hb dX0_numberAt_12 rfl (lv_at hl 1 rfl) ?_
    obtain ⟨hi_4, hf⟩ := ckI_el hf
    refine va_iald hx hb hK hP 1 1 rfl rfl hi_4 dX0_numberAt_13 ?_
    refine lv_goto (tgt := 18) hx hb dX0_numberAt_14 (by decide) ?_
    have hf := Option.some.inj hf
    cases hf
    exact x_iret hx hb hr hlocks hK hP hD hS dX0_numberAt_18
theorem kdX0_copyRow : yX0_copyRow.cls = RX0 ∧ yX0_copyRow.cls ≠ "java/lang/invoke/MethodHandle" ∧ yX0_copyRow.cls ≠ "java/lang/invoke/VarHandle" ∧ (parseMethodDescriptor yX0_copyRow.desc).map (fun d => d.parameters.length) = some 2 := by decide +kernel
def rmX0_copyRow : Room := { frames := 1, cells := 0, slots := 0, locals := 21 }
set_option maxHeartbeats 4000000 in
set_option maxRecDepth 100000 in
theorem mX0_copyRow (l : Launch) (D : va_G) (cy : Nat → ClassId) (a0 a1 a2 a3 a4 : Nat) (sz : Int32) (nu : Nat → Int32) (ba : Nat → Int32) (mo : Nat → Int32) (co : Nat → Int64) (p1 : Int32) (p2 : Int32) (nu' : Nat → Int32) (ba' : Nat → Int32) (mo' : Nat → Int32) (co' : Nat → Int64) (hf : fX0_copyRow sz nu ba mo co p1 p2 = some (nu', ba', mo', co')) : xMv l D cy yX0_copyRow aX0_copyRow rmX0_copyRow ([.ref a0, .int p1, .int p2] : List Value) (wX0 cy a0 a1 a2 a3 a4 sz nu ba mo co) (wX0 cy a0 a1 a2 a3 a4 sz nu' ba' mo' co') := by
  intro hz
  refine x_start (Qc := xQv D cy _) (cc := cX0_copyRow) (maxL := 3) (ret := none) (by decide) rfl (Nat.le_of_ble_eq_true rfl) (lv := [(0, .ref a0), (1, .int p1), (2, .int p2)]) rfl ?_
  intro p e s m below meth c ls A hx hb hr hml hown hts hlocks hK hP hD hS hA hN hl
  have hown : s.vm.findClass RX0 = some m.cls := hown
  have hbg : ∀ w ∈ wsL_law, w ∈ aX0_copyRow := fun w h => List.mem_cons_of_mem _ h
  have wd0 : (Cond.fieldLink RX0 15 "ClientMoneyBook$Accounts" "number" "[I").before ([.ref a0, .int p1, .int p2] : List Value).toArray s = true := hts _ (List.mem_cons_of_mem _ wm_2_20)
  have wd1 : (Cond.fieldLink RX0 19 "ClientMoneyBook$Accounts" "balance" "[I").before ([.ref a0, .int p1, .int p2] : List Value).toArray s = true := hts _ (List.mem_cons_of_mem _ wm_2_21)
  have wd2 : (Cond.fieldLink RX0 22 "ClientMoneyBook$Accounts" "moved" "[I").before ([.ref a0, .int p1, .int p2] : List Value).toArray s = true := hts _ (List.mem_cons_of_mem _ wm_2_22)
  have wd3 : (Cond.fieldLink RX0 25 "ClientMoneyBook$Accounts" "count" "[J").before ([.ref a0, .int p1, .int p2] : List Value).toArray s = true := hts _ (List.mem_cons_of_mem _ wm_2_23)
  have iX0 : ∀ w ∈ u_ws RX0 TX0 5, w ∈ aX0_copyRow := fun w h => List.mem_cons_of_mem _ (inlX0 w h)
  unfold fX0_copyRow at hf
  refine lv_aload_n hx hb dX0_copyRow_0 rfl (lv_at hl 0 rfl) ?_
  refine lv_iload_n hx hb dX0_copyRow_1 rfl (lv_at hl 1 rfl) ?_
  obtain ⟨r_1, h_2, hf⟩ := bd1_el hf
  refine x_callVi (As := [.int p1]) (rest := []) ⟨hx, hb, hml, hown, hts⟩ (mX0_isPlace l D cy a0 a1 a2 a3 a4 sz nu ba mo co p1 r_1 h_2) (cwV 1 hts (gcV_X0_isPlace hbg wm_7_2) rfl rfl rfl kdX0_isPlace ⟨Nat.le_of_ble_eq_true rfl, Nat.le_of_ble_eq_true rfl⟩) (w1 := []) (w2 := []) (w' := wX0 cy a0 a1 a2 a3 a4 sz nu ba mo co) (List.append_nil _) (List.append_nil _) hP hK hD hN hS hA (q0 := 0) rfl rfl rfl rfl hl rfl (Nat.le_of_ble_eq_true rfl) dX0_copyRow_2 ⟨Nat.zero_le _, Nat.zero_le _⟩ (fun H locs hP hD hS => ?_)
  refine lv_if_eq (tgt := 64) hx hb dX0_copyRow_5 (by decide) (fun c_3 => ?_) (fun c_3 => ?_)
  · have hf := x_t c_3 hf
    have hf := Option.some.inj hf
    cases hf
    exact x_vret hx hb hr hlocks hK hP hD hS dX0_copyRow_64
  · have hf := x_f c_3 hf
    refine lv_aload_n hx hb dX0_copyRow_8 rfl (lv_at hl 0 rfl) ?_
    refine lv_iload_n hx hb dX0_copyRow_9 rfl (lv_at hl 2 rfl) ?_
    obtain ⟨r_4, h_5, hf⟩ := bd1_el hf
    refine x_callVi (As := [.int p2]) (rest := []) ⟨hx, hb, hml, hown, hts⟩ (mX0_isPlace l D cy a0 a1 a2 a3 a4 sz nu ba mo co p2 r_4 h_5) (cwV 1 hts (gcV_X0_isPlace hbg wm_7_2) rfl rfl rfl kdX0_isPlace ⟨Nat.le_of_ble_eq_true rfl, Nat.le_of_ble_eq_true rfl⟩) (w1 := []) (w2 := []) (w' := wX0 cy a0 a1 a2 a3 a4 sz nu ba mo co) (List.append_nil _) (List.append_nil _) hP hK hD hN hS hA (q0 := 0) rfl rfl rfl rfl hl rfl (Nat.le_of_ble_eq_true rfl) dX0_copyRow_10 ⟨Nat.zero_le _, Nat.zero_le _⟩ (fun H locs hP hD hS => ?_)
    refine lv_if_eq (tgt := 64) hx hb dX0_copyRow_13 (by decide) (fun c_6 => ?_) (fun c_6 => ?_)
    · have hf := x_t c_6 hf
      have hf := Option.some.inj hf
      cases hf
      exact x_vret hx hb hr hlocks hK hP hD hS dX0_copyRow_64
    · have hf := x_f c_6 hf
      refine lv_aload_n hx hb dX0_copyRow_16 rfl (lv_at hl 0 rfl) ?_
      refine x_get hx hb (C := RX0) (T := TX0) (N := 5) (ci := 0) hts iX0 hown hK hP 0 rfl rfl 1 (by decide) wd0 rfl (.ref a1) rfl dX0_copyRow_17 ?_
      refine lv_iload_n hx hb dX0_copyRow_20 rfl (lv_at hl 2 rfl) ?_
      refine lv_aload_n hx hb dX0_copyRow_21 rfl (lv_at hl 0 rfl) ?_
      refine x_get hx hb (C := RX0) (T := TX0) (N := 5) (ci := 0) hts iX0 hown hK hP 0 rfl rfl 1 (by decide) wd0 rfl (.ref a1) rfl dX0_copyRow_22 ?_
      refine lv_iload_n hx hb dX0_copyRow_25 rfl (lv_at hl 1 rfl) ?_
      obtain ⟨hi_7, hf⟩ := ckI_el hf
      refine va_iald hx hb hK hP 1 1 rfl rfl hi_7 dX0_copyRow_26 ?_
      obtain ⟨hi_8, hf⟩ := ckI_el hf
      obtain ⟨nu_9, enu_9, hf⟩ := lt_el hf
      refine x_iast hx hb hK hP hD hS 1 rfl hi_8 enu_9 (w' := wX0 cy a0 a1 a2 a3 a4 sz nu_9 ba mo co) rfl dX0_copyRow_27 (fun H locs hP hD hS => ?_)
      refine lv_aload_n hx hb dX0_copyRow_28 rfl (lv_at hl 0 rfl) ?_
      refine x_get hx hb (C := RX0) (T := TX0) (N := 5) (ci := 0) hts iX0 hown hK hP 0 rfl rfl 2 (by decide) wd1 rfl (.ref a2) rfl dX0_copyRow_29 ?_
      refine lv_iload_n hx hb dX0_copyRow_32 rfl (lv_at hl 2 rfl) ?_
      refine lv_aload_n hx hb dX0_copyRow_33 rfl (lv_at hl 0 rfl) ?_
      refine x_get hx hb (C := RX0) (T := TX0) (N := 5) (ci := 0) hts iX0 hown hK hP 0 rfl rfl 2 (by decide) wd1 rfl (.ref a2) rfl dX0_copyRow_34 ?_
      refine lv_iload_n hx hb dX0_copyRow_37 rfl (lv_at hl 1 rfl) ?_
      obtain ⟨hi_10, hf⟩ := ckI_el hf
      refine va_iald hx hb hK hP 2 1 rfl rfl hi_10 dX0_copyRow_38 ?_
      obtain ⟨hi_11, hf⟩ := ckI_el hf
      obtain ⟨ba_12, eba_12, hf⟩ := lt_el hf
      refine x_iast hx hb hK hP hD hS 2 rfl hi_11 eba_12 (w' := wX0 cy a0 a1 a2 a3 a4 sz nu_9 ba_12 mo co) rfl dX0_copyRow_39 (fun H locs hP hD hS => ?_)
      refine lv_aload_n hx hb dX0_copyRow_40 rfl (lv_at hl 0 rfl) ?_
      refine x_get hx hb (C := RX0) (T := TX0) (N := 5) (ci := 0) hts iX0 hown hK hP 0 rfl rfl 3 (by decide) wd2 rfl (.ref a3) rfl dX0_copyRow_41 ?_
      refine lv_iload_n hx hb dX0_copyRow_44 rfl (lv_at hl 2 rfl) ?_
      refine lv_aload_n hx hb dX0_copyRow_45 rfl (lv_at hl 0 rfl) ?_
      refine x_get hx hb (C := RX0) (T := TX0) (N := 5) (ci := 0) hts iX0 hown hK hP 0 rfl rfl 3 (by decide) wd2 rfl (.ref a3) rfl dX0_copyRow_46 ?_
      refine lv_iload_n hx hb dX0_copyRow_49 rfl (lv_at hl 1 rfl) ?_
      obtain ⟨hi_13, hf⟩ := ckI_el hf
      refine va_iald hx hb hK hP 3 1 rfl rfl hi_13 dX0_copyRow_50 ?_
      obtain ⟨hi_14, hf⟩ := ckI_el hf
      obtain ⟨mo_15, emo_15, hf⟩ := lt_el hf
      refine x_iast hx hb hK hP hD hS 3 rfl hi_14 emo_15 (w' := wX0 cy a0 a1 a2 a3 a4 sz nu_9 ba_12 mo_15 co) rfl dX0_copyRow_51 (fun H locs hP hD hS => ?_)
      refine lv_aload_n hx hb dX0_copyRow_52 rfl (lv_at hl 0 rfl) ?_
      refine x_get hx hb (C := RX0) (T := TX0) (N := 5) (ci := 0) hts iX0 hown hK hP 0 rfl rfl 4 (by decide) wd3 rfl (.ref a4) rfl dX0_copyRow_53 ?_
      refine lv_iload_n hx hb dX0_copyRow_56 rfl (lv_at hl 2 rfl) ?_
      refine lv_aload_n hx hb dX0_copyRow_57 rfl (lv_at hl 0 rfl) ?_
      refine x_get hx hb (C := RX0) (T := TX0) (N := 5) (ci := 0) hts iX0 hown hK hP 0 rfl rfl 4 (by decide) wd3 rfl (.ref a4) rfl dX0_copyRow_58 ?_
      refine lv_iload_n hx hb dX0_copyRow_61 rfl (lv_at hl 1 rfl) ?_
      obtain ⟨hi_16, hf⟩ := ckI_el hf
      refine va_lald hx hb hK hP 4 2 rfl rfl hi_16 dX0_copyRow_62 ?_
      obtain ⟨hi_17, hf⟩ := ckI_el hf
      obtain ⟨co_18, eco_18, hf⟩ := lt_el hf
      refine x_last hx hb hK hP hD hS 4 rfl hi_17 eco_18 (w' := wX0 cy a0 a1 a2 a3 a4 sz nu_9 ba_12 mo_15 co_18) rfl dX0_copyRow_63 (fun H locs hP hD hS => ?_)
      have hf := Option.some.inj hf
      cases hf
      exact x_vret hx hb hr hlocks hK hP hD hS dX0_copyRow_64
theorem kdX0_insert : yX0_insert.cls = RX0 ∧ yX0_insert.cls ≠ "java/lang/invoke/MethodHandle" ∧ yX0_insert.cls ≠ "java/lang/invoke/VarHandle" ∧ (parseMethodDescriptor yX0_insert.desc).map (fun d => d.parameters.length) = some 2 := by decide +kernel
def rmX0_insert : Room := { frames := 2, cells := 0, slots := 0, locals := 43 }
set_option maxHeartbeats 4000000 in
set_option maxRecDepth 100000 in
theorem mX0_insert (l : Launch) (D : va_G) (cy : Nat → ClassId) (a0 a1 a2 a3 a4 : Nat) (sz : Int32) (nu : Nat → Int32) (ba : Nat → Int32) (mo : Nat → Int32) (co : Nat → Int64) (p1 : Int32) (p2 : Int32) (sz' : Int32) (nu' : Nat → Int32) (ba' : Nat → Int32) (mo' : Nat → Int32) (co' : Nat → Int64) (hf : fX0_insert sz nu ba mo co p1 p2 = some (sz', nu', ba', mo', co')) : xMv l D cy yX0_insert aX0_insert rmX0_insert ([.ref a0, .int p1, .int p2] : List Value) (wX0 cy a0 a1 a2 a3 a4 sz nu ba mo co) (wX0 cy a0 a1 a2 a3 a4 sz' nu' ba' mo' co') := by
  intro hz
  refine x_start (Qc := xQv D cy _) (cc := cX0_insert) (maxL := 4) (ret := none) (by decide) rfl (Nat.le_of_ble_eq_true rfl) (lv := [(0, .ref a0), (1, .int p1), (2, .int p2)]) rfl ?_
  intro p e s m below meth c ls A hx hb hr hml hown hts hlocks hK hP hD hS hA hN hl
  have hown : s.vm.findClass RX0 = some m.cls := hown
  have hbg : ∀ w ∈ wsL_law, w ∈ aX0_insert := fun w h => List.mem_cons_of_mem _ h
  have wd0 : (Cond.fieldLink RX0 9 "ClientMoneyBook$Accounts" "size" "I").before ([.ref a0, .int p1, .int p2] : List Value).toArray s = true := hts _ (List.mem_cons_of_mem _ wm_2_19)
  have wd1 : (Cond.fieldLink RX0 15 "ClientMoneyBook$Accounts" "number" "[I").before ([.ref a0, .int p1, .int p2] : List Value).toArray s = true := hts _ (List.mem_cons_of_mem _ wm_2_20)
  have wd2 : (Cond.fieldLink RX0 19 "ClientMoneyBook$Accounts" "balance" "[I").before ([.ref a0, .int p1, .int p2] : List Value).toArray s = true := hts _ (List.mem_cons_of_mem _ wm_2_21)
  have wd3 : (Cond.fieldLink RX0 22 "ClientMoneyBook$Accounts" "moved" "[I").before ([.ref a0, .int p1, .int p2] : List Value).toArray s = true := hts _ (List.mem_cons_of_mem _ wm_2_22)
  have wd4 : (Cond.fieldLink RX0 25 "ClientMoneyBook$Accounts" "count" "[J").before ([.ref a0, .int p1, .int p2] : List Value).toArray s = true := hts _ (List.mem_cons_of_mem _ wm_2_23)
  have iX0 : ∀ w ∈ u_ws RX0 TX0 5, w ∈ aX0_insert := fun w h => List.mem_cons_of_mem _ (inlX0 w h)
  unfold fX0_insert at hf
  refine lv_aload_n hx hb dX0_insert_0 rfl (lv_at hl 0 rfl) ?_
  refine x_get hx hb (C := RX0) (T := TX0) (N := 5) (ci := 0) hts iX0 hown hK hP 0 rfl rfl 0 (by decide) wd0 rfl (.int sz) rfl dX0_insert_1 ?_
  refine lv_bipush (v := 12) hx hb dX0_insert_4 (by decide) ?_
  refine lv_icmp_lt (tgt := 10) hx hb dX0_insert_6 (by decide) (fun c_1 => ?_) (fun c_1 => ?_)
  · have hf := x_t c_1 hf
    refine lv_aload_n hx hb dX0_insert_10 rfl (lv_at hl 0 rfl) ?_
    refine x_get hx hb (C := RX0) (T := TX0) (N := 5) (ci := 0) hts iX0 hown hK hP 0 rfl rfl 0 (by decide) wd0 rfl (.int sz) rfl dX0_insert_11 ?_
    refine lv_istore_n (lv' := [(3, .int sz), (0, .ref a0), (1, .int p1), (2, .int p2)]) hx hb dX0_insert_14 rfl hl (by decide) rfl (fun ls hl => ?_)
    refine lv_aload_n hx hb dX0_insert_15 rfl (lv_at hl 1 rfl) ?_
    refine lv_dup hx hb dX0_insert_16 rfl ?_
    refine x_get hx hb (C := RX0) (T := TX0) (N := 5) (ci := 0) hts iX0 hown hK hP 0 rfl rfl 0 (by decide) wd0 rfl (.int sz) rfl dX0_insert_17 ?_
    refine lv_iconst (v := 1) hx hb dX0_insert_20 (by decide) ?_
    refine lv_iadd hx hb dX0_insert_21 ?_
    obtain ⟨sz_2, esz_2, hf⟩ := lt_el hf
    refine x_topi esz_2 ?_
    refine x_put hx hb (C := RX0) (T := TX0) (N := 5) (ci := 0) hts iX0 tyX0 tyX0_ok nmX0 hown hK hP hD hS 0 rfl rfl 0 (by decide) wd0 rfl rfl (ty := .int) rfl rfl rfl (Nat.le_of_ble_eq_true rfl) (w' := wX0 cy a0 a1 a2 a3 a4 sz_2 nu ba mo co) rfl dX0_insert_22 (fun H locs hP hD hS => ?_)
    have hL_25 : ∀ (n : Nat) (nu_28 : Nat → Int32) (ba_29 : Nat → Int32) (mo_30 : Nat → Int32) (co_31 : Nat → Int64) (z3_32 : Int32) (o : (Nat → Int32) × (Nat → Int32) × (Nat → Int32) × (Nat → Int64) × Int32) (H : Heap) (locs : List Loc) (ls : Array Slot), fX0_insert_L25 sz_2 p1 p2 n nu_28 ba_29 mo_30 co_31 z3_32 = some o → va_P D vwCl (wX0 cy a0 a1 a2 a3 a4 sz_2 nu_28 ba_29 mo_30 co_31) H → va_D A (wX0 cy a0 a1 a2 a3 a4 sz_2 nu_28 ba_29 mo_30 co_31) → va_S A s.heap H locs → lv_has ls 4 [(0, .ref a0), (1, .int p1), (2, .int p2), (3, .int z3_32)] → True → ((∀ (nu_33 : Nat → Int32) (ba_34 : Nat → Int32) (mo_35 : Nat → Int32) (co_36 : Nat → Int64) (x3_37 : Int32) , o = (nu_33, ba_34, mo_35, co_36, x3_37) → ∀ (H : Heap) (locs : List Loc) (ls : Array Slot), va_P D vwCl (wX0 cy a0 a1 a2 a3 a4 sz_2 nu_33 ba_34 mo_35 co_36) H → va_D A (wX0 cy a0 a1 a2 a3 a4 sz_2 nu_33 ba_34 mo_35 co_36) → va_S A s.heap H locs → lv_has ls 4 [(0, .ref a0), (1, .int p1), (2, .int p2), (3, .int x3_37)] →  W p l e rmX0_insert s m ([.ref a0, .int p1, .int p2] : List Value).toArray below meth c H locs 0 0 (MQ below (xQv D cy (wX0 cy a0 a1 a2 a3 a4 sz' nu' ba' mo' co') A) ([.ref a0, .int p1, .int p2] : List Value).toArray s 0 0 A) (F0 m 54 ls []))) → W p l e rmX0_insert s m ([.ref a0, .int p1, .int p2] : List Value).toArray below meth c H locs 0 0 (MQ below (xQv D cy (wX0 cy a0 a1 a2 a3 a4 sz' nu' ba' mo' co') A) ([.ref a0, .int p1, .int p2] : List Value).toArray s 0 0 A) (F0 m 25 ls []) := by
      intro n
      induction n with
      | zero =>
        intro nu_28 ba_29 mo_30 co_31 z3_32 o_25 H locs ls hf
        rw [fX0_insert_L25] at hf
        cases hf
      | succ n ih =>
        intro nu_28 ba_29 mo_30 co_31 z3_32 o_25 H locs ls hf hP hD hS hl hr_25 kx_25
        rw [fX0_insert_L25] at hf
        refine lv_iload_n hx hb dX0_insert_25 rfl (lv_at hl 3 rfl) ?_
        refine lv_if_le (tgt := 54) hx hb dX0_insert_26 (by decide) (fun c_38 => ?_) (fun c_38 => ?_)
        · have hf := x_t c_38 hf
          exact kx_25 nu_28 ba_29 mo_30 co_31 z3_32 (Option.some.inj hf).symm _ _ _ hP hD hS (lv_sub hl [0, 1, 2, 3] rfl)
        · have hf := x_f c_38 hf
          refine lv_aload_n hx hb dX0_insert_29 rfl (lv_at hl 0 rfl) ?_
          refine lv_iload_n hx hb dX0_insert_30 rfl (lv_at hl 3 rfl) ?_
          refine lv_iconst (v := 1) hx hb dX0_insert_31 (by decide) ?_
          refine lv_isub hx hb dX0_insert_32 ?_
          obtain ⟨r_39, h_40, hf⟩ := bd1_el hf
          refine x_callVi (As := [.int (z3_32 - 1)]) (rest := []) ⟨hx, hb, hml, hown, hts⟩ (mX0_numberAt l D cy a0 a1 a2 a3 a4 sz_2 nu_28 ba_29 mo_30 co_31 (z3_32 - 1) r_39 h_40) (cwV 1 hts (gcV_X0_numberAt hbg wm_6_22) rfl rfl rfl kdX0_numberAt ⟨Nat.le_of_ble_eq_true rfl, Nat.le_of_ble_eq_true rfl⟩) (w1 := []) (w2 := []) (w' := wX0 cy a0 a1 a2 a3 a4 sz_2 nu_28 ba_29 mo_30 co_31) (List.append_nil _) (List.append_nil _) hP hK hD hN hS hA (q0 := 0) rfl rfl rfl rfl hl rfl (Nat.le_of_ble_eq_true rfl) dX0_insert_33 ⟨Nat.zero_le _, Nat.zero_le _⟩ (fun H locs hP hD hS => ?_)
          refine lv_iload_n hx hb dX0_insert_36 rfl (lv_at hl 1 rfl) ?_
          refine lv_icmp_le (tgt := 54) hx hb dX0_insert_37 (by decide) (fun c_41 => ?_) (fun c_41 => ?_)
          · have hf := x_t c_41 hf
            exact kx_25 nu_28 ba_29 mo_30 co_31 z3_32 (Option.some.inj hf).symm _ _ _ hP hD hS (lv_sub hl [0, 1, 2, 3] rfl)
          · have hf := x_f c_41 hf
            refine lv_aload_n hx hb dX0_insert_40 rfl (lv_at hl 0 rfl) ?_
            refine lv_iload_n hx hb dX0_insert_41 rfl (lv_at hl 3 rfl) ?_
            refine lv_iconst (v := 1) hx hb dX0_insert_42 (by decide) ?_
            refine lv_isub hx hb dX0_insert_43 ?_
            refine lv_iload_n hx hb dX0_insert_44 rfl (lv_at hl 3 rfl) ?_
            obtain ⟨nu_42, ba_43, mo_44, co_45, h_46, hf⟩ := bd4_el hf
            refine x_callVv (As := [.int (z3_32 - 1), .int z3_32]) (rest := []) ⟨hx, hb, hml, hown, hts⟩ (mX0_copyRow l D cy a0 a1 a2 a3 a4 sz_2 nu_28 ba_29 mo_30 co_31 (z3_32 - 1) z3_32 nu_42 ba_43 mo_44 co_45 h_46) (cwV 2 hts (gcV_X0_copyRow hbg wm_7_6) rfl rfl rfl kdX0_copyRow ⟨Nat.le_of_ble_eq_true rfl, Nat.le_of_ble_eq_true rfl⟩) (w1 := []) (w2 := []) (w' := wX0 cy a0 a1 a2 a3 a4 sz_2 nu_42 ba_43 mo_44 co_45) (List.append_nil _) (List.append_nil _) hP hK hD hN hS hA (q0 := 0) rfl rfl rfl rfl hl rfl (Nat.le_of_ble_eq_true rfl) dX0_insert_45 ⟨Nat.zero_le _, Nat.zero_le _⟩ (fun H locs hP hD hS => ?_)
            refine lv_iinc (v := (z3_32 + (-1))) (lv' := [(3, .int (z3_32 + (-1))), (0, .ref a0), (1, .int p1), (2, .int p2)]) hx hb dX0_insert_48 hl (k := 3) rfl rfl (by decide) rfl (fun ls hl => ?_)
            refine lv_goto (tgt := 25) hx hb dX0_insert_51 (by decide) ?_
            exact ih nu_42 ba_43 mo_44 co_45 (z3_32 + (-1)) _ _ _ _ hf hP hD hS (lv_sub hl [1, 2, 3, 0] rfl) hr_25 kx_25
    obtain ⟨nu_12, ba_13, mo_14, co_15, x3_16, h1_25, hf⟩ := bd5_el hf
    refine hL_25 2147483648 nu ba mo co sz _ _ _ _ h1_25 hP hD hS (lv_sub hl [1, 2, 3, 0] rfl) trivial (fun nu_129 ba_139 mo_149 co_159 x3_169 ho H locs ls hP hD hS hl => ?_)
    cases ho
    refine lv_aload_n hx hb dX0_insert_54 rfl (lv_at hl 0 rfl) ?_
    refine lv_iload_n hx hb dX0_insert_55 rfl (lv_at hl 3 rfl) ?_
    obtain ⟨r_17, h_18, hf⟩ := bd1_el hf
    refine x_callVi (As := [.int x3_16]) (rest := []) ⟨hx, hb, hml, hown, hts⟩ (mX0_isPlace l D cy a0 a1 a2 a3 a4 sz_2 nu_12 ba_13 mo_14 co_15 x3_16 r_17 h_18) (cwV 1 hts (gcV_X0_isPlace hbg wm_7_2) rfl rfl rfl kdX0_isPlace ⟨Nat.le_of_ble_eq_true rfl, Nat.le_of_ble_eq_true rfl⟩) (w1 := []) (w2 := []) (w' := wX0 cy a0 a1 a2 a3 a4 sz_2 nu_12 ba_13 mo_14 co_15) (List.append_nil _) (List.append_nil _) hP hK hD hN hS hA (q0 := 0) rfl rfl rfl rfl hl rfl (Nat.le_of_ble_eq_true rfl) dX0_insert_56 ⟨Nat.zero_le _, Nat.zero_le _⟩ (fun H locs hP hD hS => ?_)
    refine lv_if_eq (tgt := 90) hx hb dX0_insert_59 (by decide) (fun c_19 => ?_) (fun c_19 => ?_)
    · have hf := x_t c_19 hf
      have hf := Option.some.inj hf
      cases hf
      exact x_vret hx hb hr hlocks hK hP hD hS dX0_insert_90
    · have hf := x_f c_19 hf
      refine lv_aload_n hx hb dX0_insert_62 rfl (lv_at hl 0 rfl) ?_
      refine x_get hx hb (C := RX0) (T := TX0) (N := 5) (ci := 0) hts iX0 hown hK hP 0 rfl rfl 1 (by decide) wd1 rfl (.ref a1) rfl dX0_insert_63 ?_
      refine lv_iload_n hx hb dX0_insert_66 rfl (lv_at hl 3 rfl) ?_
      refine lv_iload_n hx hb dX0_insert_67 rfl (lv_at hl 1 rfl) ?_
      obtain ⟨hi_20, hf⟩ := ckI_el hf
      obtain ⟨nu_21, enu_21, hf⟩ := lt_el hf
      refine x_iast hx hb hK hP hD hS 1 rfl hi_20 enu_21 (w' := wX0 cy a0 a1 a2 a3 a4 sz_2 nu_21 ba_13 mo_14 co_15) rfl dX0_insert_68 (fun H locs hP hD hS => ?_)
      refine lv_aload_n hx hb dX0_insert_69 rfl (lv_at hl 0 rfl) ?_
      refine x_get hx hb (C := RX0) (T := TX0) (N := 5) (ci := 0) hts iX0 hown hK hP 0 rfl rfl 2 (by decide) wd2 rfl (.ref a2) rfl dX0_insert_70 ?_
      refine lv_iload_n hx hb dX0_insert_73 rfl (lv_at hl 3 rfl) ?_
      refine lv_iconst (v := 0) hx hb dX0_insert_74 (by decide) ?_
      obtain ⟨hi_22, hf⟩ := ckI_el hf
      obtain ⟨ba_23, eba_23, hf⟩ := lt_el hf
      refine x_iast hx hb hK hP hD hS 2 rfl hi_22 eba_23 (w' := wX0 cy a0 a1 a2 a3 a4 sz_2 nu_21 ba_23 mo_14 co_15) rfl dX0_insert_75 (fun H locs hP hD hS => ?_)
      refine lv_aload_n hx hb dX0_insert_76 rfl (lv_at hl 0 rfl) ?_
      refine x_get hx hb (C := RX0) (T := TX0) (N := 5) (ci := 0) hts iX0 hown hK hP 0 rfl rfl 3 (by decide) wd3 rfl (.ref a3) rfl dX0_insert_77 ?_
      refine lv_iload_n hx hb dX0_insert_80 rfl (lv_at hl 3 rfl) ?_
      refine lv_iload_n hx hb dX0_insert_81 rfl (lv_at hl 2 rfl) ?_
      obtain ⟨hi_24, hf⟩ := ckI_el hf
      obtain ⟨mo_25, emo_25, hf⟩ := lt_el hf
      refine x_iast hx hb hK hP hD hS 3 rfl hi_24 emo_25 (w' := wX0 cy a0 a1 a2 a3 a4 sz_2 nu_21 ba_23 mo_25 co_15) rfl dX0_insert_82 (fun H locs hP hD hS => ?_)
      refine lv_aload_n hx hb dX0_insert_83 rfl (lv_at hl 0 rfl) ?_
      refine x_get hx hb (C := RX0) (T := TX0) (N := 5) (ci := 0) hts iX0 hown hK hP 0 rfl rfl 4 (by decide) wd4 rfl (.ref a4) rfl dX0_insert_84 ?_
      refine lv_iload_n hx hb dX0_insert_87 rfl (lv_at hl 3 rfl) ?_
      refine lv_lconst (v := 0) hx hb dX0_insert_88 (by decide) ?_
      obtain ⟨hi_26, hf⟩ := ckI_el hf
      obtain ⟨co_27, eco_27, hf⟩ := lt_el hf
      refine x_last hx hb hK hP hD hS 4 rfl hi_26 eco_27 (w' := wX0 cy a0 a1 a2 a3 a4 sz_2 nu_21 ba_23 mo_25 co_27) rfl dX0_insert_89 (fun H locs hP hD hS => ?_)
      have hf := Option.some.inj hf
      cases hf
      exact x_vret hx hb hr hlocks hK hP hD hS dX0_insert_90
  · have hf := x_f c_1 hf
    have hf := Option.some.inj hf
    cases hf
    exact x_vret hx hb hr hlocks hK hP hD hS dX0_insert_9
theorem kdX0_remove : yX0_remove.cls = RX0 ∧ yX0_remove.cls ≠ "java/lang/invoke/MethodHandle" ∧ yX0_remove.cls ≠ "java/lang/invoke/VarHandle" ∧ (parseMethodDescriptor yX0_remove.desc).map (fun d => d.parameters.length) = some 1 := by decide +kernel
def rmX0_remove : Room := { frames := 2, cells := 0, slots := 0, locals := 43 }
set_option maxHeartbeats 4000000 in
set_option maxRecDepth 100000 in
theorem mX0_remove (l : Launch) (D : va_G) (cy : Nat → ClassId) (a0 a1 a2 a3 a4 : Nat) (sz : Int32) (nu : Nat → Int32) (ba : Nat → Int32) (mo : Nat → Int32) (co : Nat → Int64) (p1 : Int32) (sz' : Int32) (nu' : Nat → Int32) (ba' : Nat → Int32) (mo' : Nat → Int32) (co' : Nat → Int64) (hf : fX0_remove sz nu ba mo co p1 = some (sz', nu', ba', mo', co')) : xMv l D cy yX0_remove aX0_remove rmX0_remove ([.ref a0, .int p1] : List Value) (wX0 cy a0 a1 a2 a3 a4 sz nu ba mo co) (wX0 cy a0 a1 a2 a3 a4 sz' nu' ba' mo' co') := by
  intro hz
  refine x_start (Qc := xQv D cy _) (cc := cX0_remove) (maxL := 3) (ret := none) (by decide) rfl (Nat.le_of_ble_eq_true rfl) (lv := [(0, .ref a0), (1, .int p1)]) rfl ?_
  intro p e s m below meth c ls A hx hb hr hml hown hts hlocks hK hP hD hS hA hN hl
  have hown : s.vm.findClass RX0 = some m.cls := hown
  have hbg : ∀ w ∈ wsL_law, w ∈ aX0_remove := fun w h => List.mem_cons_of_mem _ h
  have wd0 : (Cond.fieldLink RX0 9 "ClientMoneyBook$Accounts" "size" "I").before ([.ref a0, .int p1] : List Value).toArray s = true := hts _ (List.mem_cons_of_mem _ wm_2_19)
  have iX0 : ∀ w ∈ u_ws RX0 TX0 5, w ∈ aX0_remove := fun w h => List.mem_cons_of_mem _ (inlX0 w h)
  unfold fX0_remove at hf
  refine lv_aload_n hx hb dX0_remove_0 rfl (lv_at hl 0 rfl) ?_
  refine lv_iload_n hx hb dX0_remove_1 rfl (lv_at hl 1 rfl) ?_
  obtain ⟨r_1, h_2, hf⟩ := bd1_el hf
  refine x_callVi (As := [.int p1]) (rest := []) ⟨hx, hb, hml, hown, hts⟩ (mX0_isPlace l D cy a0 a1 a2 a3 a4 sz nu ba mo co p1 r_1 h_2) (cwV 1 hts (gcV_X0_isPlace hbg wm_7_2) rfl rfl rfl kdX0_isPlace ⟨Nat.le_of_ble_eq_true rfl, Nat.le_of_ble_eq_true rfl⟩) (w1 := []) (w2 := []) (w' := wX0 cy a0 a1 a2 a3 a4 sz nu ba mo co) (List.append_nil _) (List.append_nil _) hP hK hD hN hS hA (q0 := 0) rfl rfl rfl rfl hl rfl (Nat.le_of_ble_eq_true rfl) dX0_remove_2 ⟨Nat.zero_le _, Nat.zero_le _⟩ (fun H locs hP hD hS => ?_)
  refine lv_if_ne (tgt := 9) hx hb dX0_remove_5 (by decide) (fun c_3 => ?_) (fun c_3 => ?_)
  · have hf := x_f c_3 hf
    refine lv_iload_n hx hb dX0_remove_9 rfl (lv_at hl 1 rfl) ?_
    refine lv_istore_n (lv' := [(2, .int p1), (0, .ref a0), (1, .int p1)]) hx hb dX0_remove_10 rfl hl (by decide) rfl (fun ls hl => ?_)
    have hL_11 : ∀ (n : Nat) (nu_15 : Nat → Int32) (ba_16 : Nat → Int32) (mo_17 : Nat → Int32) (co_18 : Nat → Int64) (z2_19 : Int32) (o : (Nat → Int32) × (Nat → Int32) × (Nat → Int32) × (Nat → Int64)) (H : Heap) (locs : List Loc) (ls : Array Slot), fX0_remove_L11 sz n nu_15 ba_16 mo_17 co_18 z2_19 = some o → va_P D vwCl (wX0 cy a0 a1 a2 a3 a4 sz nu_15 ba_16 mo_17 co_18) H → va_D A (wX0 cy a0 a1 a2 a3 a4 sz nu_15 ba_16 mo_17 co_18) → va_S A s.heap H locs → lv_has ls 3 [(0, .ref a0), (2, .int z2_19)] → True → ((∀ (nu_20 : Nat → Int32) (ba_21 : Nat → Int32) (mo_22 : Nat → Int32) (co_23 : Nat → Int64) , o = (nu_20, ba_21, mo_22, co_23) → ∀ (H : Heap) (locs : List Loc) (ls : Array Slot), va_P D vwCl (wX0 cy a0 a1 a2 a3 a4 sz nu_20 ba_21 mo_22 co_23) H → va_D A (wX0 cy a0 a1 a2 a3 a4 sz nu_20 ba_21 mo_22 co_23) → va_S A s.heap H locs → lv_has ls 3 [(0, .ref a0)] →  W p l e rmX0_remove s m ([.ref a0, .int p1] : List Value).toArray below meth c H locs 0 0 (MQ below (xQv D cy (wX0 cy a0 a1 a2 a3 a4 sz' nu' ba' mo' co') A) ([.ref a0, .int p1] : List Value).toArray s 0 0 A) (F0 m 35 ls []))) → W p l e rmX0_remove s m ([.ref a0, .int p1] : List Value).toArray below meth c H locs 0 0 (MQ below (xQv D cy (wX0 cy a0 a1 a2 a3 a4 sz' nu' ba' mo' co') A) ([.ref a0, .int p1] : List Value).toArray s 0 0 A) (F0 m 11 ls []) := by
      intro n
      induction n with
      | zero =>
        intro nu_15 ba_16 mo_17 co_18 z2_19 o_11 H locs ls hf
        rw [fX0_remove_L11] at hf
        cases hf
      | succ n ih =>
        intro nu_15 ba_16 mo_17 co_18 z2_19 o_11 H locs ls hf hP hD hS hl hr_11 kx_11
        rw [fX0_remove_L11] at hf
        refine lv_iload_n hx hb dX0_remove_11 rfl (lv_at hl 1 rfl) ?_
        refine lv_iconst (v := 1) hx hb dX0_remove_12 (by decide) ?_
        refine lv_iadd hx hb dX0_remove_13 ?_
        refine lv_aload_n hx hb dX0_remove_14 rfl (lv_at hl 0 rfl) ?_
        refine x_get hx hb (C := RX0) (T := TX0) (N := 5) (ci := 0) hts iX0 hown hK hP 0 rfl rfl 0 (by decide) wd0 rfl (.int sz) rfl dX0_remove_15 ?_
        refine lv_icmp_ge (tgt := 35) hx hb dX0_remove_18 (by decide) (fun c_24 => ?_) (fun c_24 => ?_)
        · have hf := x_t c_24 hf
          exact kx_11 nu_15 ba_16 mo_17 co_18 (Option.some.inj hf).symm _ _ _ hP hD hS (lv_sub hl [0] rfl)
        · have hf := x_f c_24 hf
          refine lv_aload_n hx hb dX0_remove_21 rfl (lv_at hl 0 rfl) ?_
          refine lv_iload_n hx hb dX0_remove_22 rfl (lv_at hl 1 rfl) ?_
          refine lv_iconst (v := 1) hx hb dX0_remove_23 (by decide) ?_
          refine lv_iadd hx hb dX0_remove_24 ?_
          refine lv_iload_n hx hb dX0_remove_25 rfl (lv_at hl 1 rfl) ?_
          obtain ⟨nu_25, ba_26, mo_27, co_28, h_29, hf⟩ := bd4_el hf
          refine x_callVv (As := [.int (z2_19 + 1), .int z2_19]) (rest := []) ⟨hx, hb, hml, hown, hts⟩ (mX0_copyRow l D cy a0 a1 a2 a3 a4 sz nu_15 ba_16 mo_17 co_18 (z2_19 + 1) z2_19 nu_25 ba_26 mo_27 co_28 h_29) (cwV 2 hts (gcV_X0_copyRow hbg wm_7_6) rfl rfl rfl kdX0_copyRow ⟨Nat.le_of_ble_eq_true rfl, Nat.le_of_ble_eq_true rfl⟩) (w1 := []) (w2 := []) (w' := wX0 cy a0 a1 a2 a3 a4 sz nu_25 ba_26 mo_27 co_28) (List.append_nil _) (List.append_nil _) hP hK hD hN hS hA (q0 := 0) rfl rfl rfl rfl hl rfl (Nat.le_of_ble_eq_true rfl) dX0_remove_26 ⟨Nat.zero_le _, Nat.zero_le _⟩ (fun H locs hP hD hS => ?_)
          refine lv_iinc (v := (z2_19 + 1)) (lv' := [(2, .int (z2_19 + 1)), (0, .ref a0)]) hx hb dX0_remove_29 hl (k := 1) rfl rfl (by decide) rfl (fun ls hl => ?_)
          refine lv_goto (tgt := 11) hx hb dX0_remove_32 (by decide) ?_
          exact ih nu_25 ba_26 mo_27 co_28 (z2_19 + 1) _ _ _ _ hf hP hD hS (lv_sub hl [1, 0] rfl) hr_11 kx_11
    obtain ⟨nu_10, ba_11, mo_12, co_13, h1_11, hf⟩ := bd4_el hf
    refine hL_11 2147483648 nu ba mo co p1 _ _ _ _ h1_11 hP hD hS (lv_sub hl [1, 0] rfl) trivial (fun nu_109 ba_119 mo_129 co_139 ho H locs ls hP hD hS hl => ?_)
    cases ho
    refine lv_aload_n hx hb dX0_remove_35 rfl (lv_at hl 0 rfl) ?_
    refine lv_dup hx hb dX0_remove_36 rfl ?_
    refine x_get hx hb (C := RX0) (T := TX0) (N := 5) (ci := 0) hts iX0 hown hK hP 0 rfl rfl 0 (by decide) wd0 rfl (.int sz) rfl dX0_remove_37 ?_
    refine lv_iconst (v := 1) hx hb dX0_remove_40 (by decide) ?_
    refine lv_isub hx hb dX0_remove_41 ?_
    obtain ⟨sz_14, esz_14, hf⟩ := lt_el hf
    refine x_topi esz_14 ?_
    refine x_put hx hb (C := RX0) (T := TX0) (N := 5) (ci := 0) hts iX0 tyX0 tyX0_ok nmX0 hown hK hP hD hS 0 rfl rfl 0 (by decide) wd0 rfl rfl (ty := .int) rfl rfl rfl (Nat.le_of_ble_eq_true rfl) (w' := wX0 cy a0 a1 a2 a3 a4 sz_14 nu_10 ba_11 mo_12 co_13) rfl dX0_remove_42 (fun H locs hP hD hS => ?_)
    have hf := Option.some.inj hf
    cases hf
    exact x_vret hx hb hr hlocks hK hP hD hS dX0_remove_45
  · have hf := x_t c_3 hf
    have hf := Option.some.inj hf
    cases hf
    exact x_vret hx hb hr hlocks hK hP hD hS dX0_remove_8
theorem kdX0_balanceAt : yX0_balanceAt.cls = RX0 ∧ yX0_balanceAt.cls ≠ "java/lang/invoke/MethodHandle" ∧ yX0_balanceAt.cls ≠ "java/lang/invoke/VarHandle" ∧ (parseMethodDescriptor yX0_balanceAt.desc).map (fun d => d.parameters.length) = some 1 := by decide +kernel
def rmX0_balanceAt : Room := { frames := 1, cells := 0, slots := 0, locals := 21 }
set_option maxHeartbeats 4000000 in
set_option maxRecDepth 100000 in
theorem mX0_balanceAt (l : Launch) (D : va_G) (cy : Nat → ClassId) (a0 a1 a2 a3 a4 : Nat) (sz : Int32) (nu : Nat → Int32) (ba : Nat → Int32) (mo : Nat → Int32) (co : Nat → Int64) (p1 : Int32) (r : Int32) (hf : fX0_balanceAt sz ba p1 = some r) : xMi l D cy yX0_balanceAt aX0_balanceAt rmX0_balanceAt ([.ref a0, .int p1] : List Value) (wX0 cy a0 a1 a2 a3 a4 sz nu ba mo co) (wX0 cy a0 a1 a2 a3 a4 sz nu ba mo co) r := by
  intro hz
  refine x_start (Qc := xQi D cy _ r) (cc := cX0_balanceAt) (maxL := 2) (ret := (some .int)) (by decide) rfl (Nat.le_of_ble_eq_true rfl) (lv := [(0, .ref a0), (1, .int p1)]) rfl ?_
  intro p e s m below meth c ls A hx hb hr hml hown hts hlocks hK hP hD hS hA hN hl
  have hown : s.vm.findClass RX0 = some m.cls := hown
  have hbg : ∀ w ∈ wsL_law, w ∈ aX0_balanceAt := fun w h => List.mem_cons_of_mem _ h
  have wd0 : (Cond.fieldLink RX0 19 "ClientMoneyBook$Accounts" "balance" "[I").before ([.ref a0, .int p1] : List Value).toArray s = true := hts _ (List.mem_cons_of_mem _ wm_2_21)
  have iX0 : ∀ w ∈ u_ws RX0 TX0 5, w ∈ aX0_balanceAt := fun w h => List.mem_cons_of_mem _ (inlX0 w h)
  unfold fX0_balanceAt at hf
  refine lv_aload_n hx hb dX0_balanceAt_0 rfl (lv_at hl 0 rfl) ?_
  refine lv_iload_n hx hb dX0_balanceAt_1 rfl (lv_at hl 1 rfl) ?_
  obtain ⟨r_1, h_2, hf⟩ := bd1_el hf
  refine x_callVi (As := [.int p1]) (rest := []) ⟨hx, hb, hml, hown, hts⟩ (mX0_isPlace l D cy a0 a1 a2 a3 a4 sz nu ba mo co p1 r_1 h_2) (cwV 1 hts (gcV_X0_isPlace hbg wm_7_2) rfl rfl rfl kdX0_isPlace ⟨Nat.le_of_ble_eq_true rfl, Nat.le_of_ble_eq_true rfl⟩) (w1 := []) (w2 := []) (w' := wX0 cy a0 a1 a2 a3 a4 sz nu ba mo co) (List.append_nil _) (List.append_nil _) hP hK hD hN hS hA (q0 := 0) rfl rfl rfl rfl hl rfl (Nat.le_of_ble_eq_true rfl) dX0_balanceAt_2 ⟨Nat.zero_le _, Nat.zero_le _⟩ (fun H locs hP hD hS => ?_)
  refine lv_if_eq (tgt := 17) hx hb dX0_balanceAt_5 (by decide) (fun c_3 => ?_) (fun c_3 => ?_)
  · have hf := x_t c_3 hf
    refine lv_iconst (v := 0) hx hb dX0_balanceAt_17 (by decide) ?_
    have hf := Option.some.inj hf
    cases hf
    exact x_iret hx hb hr hlocks hK hP hD hS dX0_balanceAt_18
  · have hf := x_f c_3 hf
    refine lv_aload_n hx hb dX0_balanceAt_8 rfl (lv_at hl 0 rfl) ?_
    refine x_get hx hb (C := RX0) (T := TX0) (N := 5) (ci := 0) hts iX0 hown hK hP 0 rfl rfl 2 (by decide) wd0 rfl (.ref a2) rfl dX0_balanceAt_9 ?_
    refine lv_iload_n hx hb dX0_balanceAt_12 rfl (lv_at hl 1 rfl) ?_
    obtain ⟨hi_4, hf⟩ := ckI_el hf
    refine va_iald hx hb hK hP 2 1 rfl rfl hi_4 dX0_balanceAt_13 ?_
    refine lv_goto (tgt := 18) hx hb dX0_balanceAt_14 (by decide) ?_
    have hf := Option.some.inj hf
    cases hf
    exact x_iret hx hb hr hlocks hK hP hD hS dX0_balanceAt_18
theorem kdX0_movedAt : yX0_movedAt.cls = RX0 ∧ yX0_movedAt.cls ≠ "java/lang/invoke/MethodHandle" ∧ yX0_movedAt.cls ≠ "java/lang/invoke/VarHandle" ∧ (parseMethodDescriptor yX0_movedAt.desc).map (fun d => d.parameters.length) = some 1 := by decide +kernel
def rmX0_movedAt : Room := { frames := 1, cells := 0, slots := 0, locals := 21 }
set_option maxHeartbeats 4000000 in
set_option maxRecDepth 100000 in
theorem mX0_movedAt (l : Launch) (D : va_G) (cy : Nat → ClassId) (a0 a1 a2 a3 a4 : Nat) (sz : Int32) (nu : Nat → Int32) (ba : Nat → Int32) (mo : Nat → Int32) (co : Nat → Int64) (p1 : Int32) (r : Int32) (hf : fX0_movedAt sz mo p1 = some r) : xMi l D cy yX0_movedAt aX0_movedAt rmX0_movedAt ([.ref a0, .int p1] : List Value) (wX0 cy a0 a1 a2 a3 a4 sz nu ba mo co) (wX0 cy a0 a1 a2 a3 a4 sz nu ba mo co) r := by
  intro hz
  refine x_start (Qc := xQi D cy _ r) (cc := cX0_movedAt) (maxL := 2) (ret := (some .int)) (by decide) rfl (Nat.le_of_ble_eq_true rfl) (lv := [(0, .ref a0), (1, .int p1)]) rfl ?_
  intro p e s m below meth c ls A hx hb hr hml hown hts hlocks hK hP hD hS hA hN hl
  have hown : s.vm.findClass RX0 = some m.cls := hown
  have hbg : ∀ w ∈ wsL_law, w ∈ aX0_movedAt := fun w h => List.mem_cons_of_mem _ h
  have wd0 : (Cond.fieldLink RX0 22 "ClientMoneyBook$Accounts" "moved" "[I").before ([.ref a0, .int p1] : List Value).toArray s = true := hts _ (List.mem_cons_of_mem _ wm_2_22)
  have iX0 : ∀ w ∈ u_ws RX0 TX0 5, w ∈ aX0_movedAt := fun w h => List.mem_cons_of_mem _ (inlX0 w h)
  unfold fX0_movedAt at hf
  refine lv_aload_n hx hb dX0_movedAt_0 rfl (lv_at hl 0 rfl) ?_
  refine lv_iload_n hx hb dX0_movedAt_1 rfl (lv_at hl 1 rfl) ?_
  obtain ⟨r_1, h_2, hf⟩ := bd1_el hf
  refine x_callVi (As := [.int p1]) (rest := []) ⟨hx, hb, hml, hown, hts⟩ (mX0_isPlace l D cy a0 a1 a2 a3 a4 sz nu ba mo co p1 r_1 h_2) (cwV 1 hts (gcV_X0_isPlace hbg wm_7_2) rfl rfl rfl kdX0_isPlace ⟨Nat.le_of_ble_eq_true rfl, Nat.le_of_ble_eq_true rfl⟩) (w1 := []) (w2 := []) (w' := wX0 cy a0 a1 a2 a3 a4 sz nu ba mo co) (List.append_nil _) (List.append_nil _) hP hK hD hN hS hA (q0 := 0) rfl rfl rfl rfl hl rfl (Nat.le_of_ble_eq_true rfl) dX0_movedAt_2 ⟨Nat.zero_le _, Nat.zero_le _⟩ (fun H locs hP hD hS => ?_)
  refine lv_if_eq (tgt := 17) hx hb dX0_movedAt_5 (by decide) (fun c_3 => ?_) (fun c_3 => ?_)
  · have hf := x_t c_3 hf
    refine lv_iconst (v := 0) hx hb dX0_movedAt_17 (by decide) ?_
    have hf := Option.some.inj hf
    cases hf
    exact x_iret hx hb hr hlocks hK hP hD hS dX0_movedAt_18
  · have hf := x_f c_3 hf
    refine lv_aload_n hx hb dX0_movedAt_8 rfl (lv_at hl 0 rfl) ?_
    refine x_get hx hb (C := RX0) (T := TX0) (N := 5) (ci := 0) hts iX0 hown hK hP 0 rfl rfl 3 (by decide) wd0 rfl (.ref a3) rfl dX0_movedAt_9 ?_
    refine lv_iload_n hx hb dX0_movedAt_12 rfl (lv_at hl 1 rfl) ?_
    obtain ⟨hi_4, hf⟩ := ckI_el hf
    refine va_iald hx hb hK hP 3 1 rfl rfl hi_4 dX0_movedAt_13 ?_
    refine lv_goto (tgt := 18) hx hb dX0_movedAt_14 (by decide) ?_
    have hf := Option.some.inj hf
    cases hf
    exact x_iret hx hb hr hlocks hK hP hD hS dX0_movedAt_18
theorem kdX0_countAt : yX0_countAt.cls = RX0 ∧ yX0_countAt.cls ≠ "java/lang/invoke/MethodHandle" ∧ yX0_countAt.cls ≠ "java/lang/invoke/VarHandle" ∧ (parseMethodDescriptor yX0_countAt.desc).map (fun d => d.parameters.length) = some 1 := by decide +kernel
def rmX0_countAt : Room := { frames := 1, cells := 0, slots := 0, locals := 21 }
set_option maxHeartbeats 4000000 in
set_option maxRecDepth 100000 in
theorem mX0_countAt (l : Launch) (D : va_G) (cy : Nat → ClassId) (a0 a1 a2 a3 a4 : Nat) (sz : Int32) (nu : Nat → Int32) (ba : Nat → Int32) (mo : Nat → Int32) (co : Nat → Int64) (p1 : Int32) (r : Int64) (hf : fX0_countAt sz co p1 = some r) : xMl l D cy yX0_countAt aX0_countAt rmX0_countAt ([.ref a0, .int p1] : List Value) (wX0 cy a0 a1 a2 a3 a4 sz nu ba mo co) (wX0 cy a0 a1 a2 a3 a4 sz nu ba mo co) r := by
  intro hz
  refine x_start (Qc := xQl D cy _ r) (cc := cX0_countAt) (maxL := 2) (ret := (some .long)) (by decide) rfl (Nat.le_of_ble_eq_true rfl) (lv := [(0, .ref a0), (1, .int p1)]) rfl ?_
  intro p e s m below meth c ls A hx hb hr hml hown hts hlocks hK hP hD hS hA hN hl
  have hown : s.vm.findClass RX0 = some m.cls := hown
  have hbg : ∀ w ∈ wsL_law, w ∈ aX0_countAt := fun w h => List.mem_cons_of_mem _ h
  have wd0 : (Cond.fieldLink RX0 25 "ClientMoneyBook$Accounts" "count" "[J").before ([.ref a0, .int p1] : List Value).toArray s = true := hts _ (List.mem_cons_of_mem _ wm_2_23)
  have iX0 : ∀ w ∈ u_ws RX0 TX0 5, w ∈ aX0_countAt := fun w h => List.mem_cons_of_mem _ (inlX0 w h)
  unfold fX0_countAt at hf
  refine lv_aload_n hx hb dX0_countAt_0 rfl (lv_at hl 0 rfl) ?_
  refine lv_iload_n hx hb dX0_countAt_1 rfl (lv_at hl 1 rfl) ?_
  obtain ⟨r_1, h_2, hf⟩ := bd1_el hf
  refine x_callVi (As := [.int p1]) (rest := []) ⟨hx, hb, hml, hown, hts⟩ (mX0_isPlace l D cy a0 a1 a2 a3 a4 sz nu ba mo co p1 r_1 h_2) (cwV 1 hts (gcV_X0_isPlace hbg wm_7_2) rfl rfl rfl kdX0_isPlace ⟨Nat.le_of_ble_eq_true rfl, Nat.le_of_ble_eq_true rfl⟩) (w1 := []) (w2 := []) (w' := wX0 cy a0 a1 a2 a3 a4 sz nu ba mo co) (List.append_nil _) (List.append_nil _) hP hK hD hN hS hA (q0 := 0) rfl rfl rfl rfl hl rfl (Nat.le_of_ble_eq_true rfl) dX0_countAt_2 ⟨Nat.zero_le _, Nat.zero_le _⟩ (fun H locs hP hD hS => ?_)
  refine lv_if_eq (tgt := 17) hx hb dX0_countAt_5 (by decide) (fun c_3 => ?_) (fun c_3 => ?_)
  · have hf := x_t c_3 hf
    refine lv_lconst (v := 0) hx hb dX0_countAt_17 (by decide) ?_
    have hf := Option.some.inj hf
    cases hf
    exact x_lret hx hb hr hlocks hK hP hD hS dX0_countAt_18
  · have hf := x_f c_3 hf
    refine lv_aload_n hx hb dX0_countAt_8 rfl (lv_at hl 0 rfl) ?_
    refine x_get hx hb (C := RX0) (T := TX0) (N := 5) (ci := 0) hts iX0 hown hK hP 0 rfl rfl 4 (by decide) wd0 rfl (.ref a4) rfl dX0_countAt_9 ?_
    refine lv_iload_n hx hb dX0_countAt_12 rfl (lv_at hl 1 rfl) ?_
    obtain ⟨hi_4, hf⟩ := ckI_el hf
    refine va_lald hx hb hK hP 4 2 rfl rfl hi_4 dX0_countAt_13 ?_
    refine lv_goto (tgt := 18) hx hb dX0_countAt_14 (by decide) ?_
    have hf := Option.some.inj hf
    cases hf
    exact x_lret hx hb hr hlocks hK hP hD hS dX0_countAt_18
theorem kdX0_add : yX0_add.cls = RX0 ∧ yX0_add.cls ≠ "java/lang/invoke/MethodHandle" ∧ yX0_add.cls ≠ "java/lang/invoke/VarHandle" ∧ (parseMethodDescriptor yX0_add.desc).map (fun d => d.parameters.length) = some 2 := by decide +kernel
def rmX0_add : Room := { frames := 1, cells := 0, slots := 0, locals := 21 }
set_option maxHeartbeats 4000000 in
set_option maxRecDepth 100000 in
theorem mX0_add (l : Launch) (D : va_G) (cy : Nat → ClassId) (a0 a1 a2 a3 a4 : Nat) (sz : Int32) (nu : Nat → Int32) (ba : Nat → Int32) (mo : Nat → Int32) (co : Nat → Int64) (p1 : Int32) (p2 : Int32) (ba' : Nat → Int32) (hf : fX0_add sz ba p1 p2 = some ba') : xMv l D cy yX0_add aX0_add rmX0_add ([.ref a0, .int p1, .int p2] : List Value) (wX0 cy a0 a1 a2 a3 a4 sz nu ba mo co) (wX0 cy a0 a1 a2 a3 a4 sz nu ba' mo co) := by
  intro hz
  refine x_start (Qc := xQv D cy _) (cc := cX0_add) (maxL := 3) (ret := none) (by decide) rfl (Nat.le_of_ble_eq_true rfl) (lv := [(0, .ref a0), (1, .int p1), (2, .int p2)]) rfl ?_
  intro p e s m below meth c ls A hx hb hr hml hown hts hlocks hK hP hD hS hA hN hl
  have hown : s.vm.findClass RX0 = some m.cls := hown
  have hbg : ∀ w ∈ wsL_law, w ∈ aX0_add := fun w h => List.mem_cons_of_mem _ h
  have wd0 : (Cond.fieldLink RX0 19 "ClientMoneyBook$Accounts" "balance" "[I").before ([.ref a0, .int p1, .int p2] : List Value).toArray s = true := hts _ (List.mem_cons_of_mem _ wm_2_21)
  have iX0 : ∀ w ∈ u_ws RX0 TX0 5, w ∈ aX0_add := fun w h => List.mem_cons_of_mem _ (inlX0 w h)
  unfold fX0_add at hf
  refine lv_aload_n hx hb dX0_add_0 rfl (lv_at hl 0 rfl) ?_
  refine lv_iload_n hx hb dX0_add_1 rfl (lv_at hl 1 rfl) ?_
  obtain ⟨r_1, h_2, hf⟩ := bd1_el hf
  refine x_callVi (As := [.int p1]) (rest := []) ⟨hx, hb, hml, hown, hts⟩ (mX0_isPlace l D cy a0 a1 a2 a3 a4 sz nu ba mo co p1 r_1 h_2) (cwV 1 hts (gcV_X0_isPlace hbg wm_7_2) rfl rfl rfl kdX0_isPlace ⟨Nat.le_of_ble_eq_true rfl, Nat.le_of_ble_eq_true rfl⟩) (w1 := []) (w2 := []) (w' := wX0 cy a0 a1 a2 a3 a4 sz nu ba mo co) (List.append_nil _) (List.append_nil _) hP hK hD hN hS hA (q0 := 0) rfl rfl rfl rfl hl rfl (Nat.le_of_ble_eq_true rfl) dX0_add_2 ⟨Nat.zero_le _, Nat.zero_le _⟩ (fun H locs hP hD hS => ?_)
  refine lv_if_eq (tgt := 18) hx hb dX0_add_5 (by decide) (fun c_3 => ?_) (fun c_3 => ?_)
  · have hf := x_t c_3 hf
    have hf := Option.some.inj hf
    cases hf
    exact x_vret hx hb hr hlocks hK hP hD hS dX0_add_18
  · have hf := x_f c_3 hf
    refine lv_aload_n hx hb dX0_add_8 rfl (lv_at hl 0 rfl) ?_
    refine x_get hx hb (C := RX0) (T := TX0) (N := 5) (ci := 0) hts iX0 hown hK hP 0 rfl rfl 2 (by decide) wd0 rfl (.ref a2) rfl dX0_add_9 ?_
    refine lv_iload_n hx hb dX0_add_12 rfl (lv_at hl 1 rfl) ?_
    refine lv_dup2_11 hx hb dX0_add_13 rfl rfl ?_
    obtain ⟨hi_4, hf⟩ := ckI_el hf
    refine va_iald hx hb hK hP 2 1 rfl rfl hi_4 dX0_add_14 ?_
    refine lv_iload_n hx hb dX0_add_15 rfl (lv_at hl 2 rfl) ?_
    refine lv_iadd hx hb dX0_add_16 ?_
    obtain ⟨hi_5, hf⟩ := ckI_el hf
    obtain ⟨ba_6, eba_6, hf⟩ := lt_el hf
    refine x_iast hx hb hK hP hD hS 2 rfl hi_5 eba_6 (w' := wX0 cy a0 a1 a2 a3 a4 sz nu ba_6 mo co) rfl dX0_add_17 (fun H locs hP hD hS => ?_)
    have hf := Option.some.inj hf
    cases hf
    exact x_vret hx hb hr hlocks hK hP hD hS dX0_add_18
theorem kdX0_addCount : yX0_addCount.cls = RX0 ∧ yX0_addCount.cls ≠ "java/lang/invoke/MethodHandle" ∧ yX0_addCount.cls ≠ "java/lang/invoke/VarHandle" ∧ (parseMethodDescriptor yX0_addCount.desc).map (fun d => d.parameters.length) = some 2 := by decide +kernel
def rmX0_addCount : Room := { frames := 1, cells := 0, slots := 0, locals := 21 }
set_option maxHeartbeats 4000000 in
set_option maxRecDepth 100000 in
theorem mX0_addCount (l : Launch) (D : va_G) (cy : Nat → ClassId) (a0 a1 a2 a3 a4 : Nat) (sz : Int32) (nu : Nat → Int32) (ba : Nat → Int32) (mo : Nat → Int32) (co : Nat → Int64) (p1 : Int32) (p2 : Int64) (co' : Nat → Int64) (hf : fX0_addCount sz co p1 p2 = some co') : xMv l D cy yX0_addCount aX0_addCount rmX0_addCount ([.ref a0, .int p1, .long p2] : List Value) (wX0 cy a0 a1 a2 a3 a4 sz nu ba mo co) (wX0 cy a0 a1 a2 a3 a4 sz nu ba mo co') := by
  intro hz
  refine x_start (Qc := xQv D cy _) (cc := cX0_addCount) (maxL := 4) (ret := none) (by decide) rfl (Nat.le_of_ble_eq_true rfl) (lv := [(0, .ref a0), (1, .int p1), (2, .long p2)]) rfl ?_
  intro p e s m below meth c ls A hx hb hr hml hown hts hlocks hK hP hD hS hA hN hl
  have hown : s.vm.findClass RX0 = some m.cls := hown
  have hbg : ∀ w ∈ wsL_law, w ∈ aX0_addCount := fun w h => List.mem_cons_of_mem _ h
  have wd0 : (Cond.fieldLink RX0 25 "ClientMoneyBook$Accounts" "count" "[J").before ([.ref a0, .int p1, .long p2] : List Value).toArray s = true := hts _ (List.mem_cons_of_mem _ wm_2_23)
  have iX0 : ∀ w ∈ u_ws RX0 TX0 5, w ∈ aX0_addCount := fun w h => List.mem_cons_of_mem _ (inlX0 w h)
  unfold fX0_addCount at hf
  refine lv_aload_n hx hb dX0_addCount_0 rfl (lv_at hl 0 rfl) ?_
  refine lv_iload_n hx hb dX0_addCount_1 rfl (lv_at hl 1 rfl) ?_
  obtain ⟨r_1, h_2, hf⟩ := bd1_el hf
  refine x_callVi (As := [.int p1]) (rest := []) ⟨hx, hb, hml, hown, hts⟩ (mX0_isPlace l D cy a0 a1 a2 a3 a4 sz nu ba mo co p1 r_1 h_2) (cwV 1 hts (gcV_X0_isPlace hbg wm_7_2) rfl rfl rfl kdX0_isPlace ⟨Nat.le_of_ble_eq_true rfl, Nat.le_of_ble_eq_true rfl⟩) (w1 := []) (w2 := []) (w' := wX0 cy a0 a1 a2 a3 a4 sz nu ba mo co) (List.append_nil _) (List.append_nil _) hP hK hD hN hS hA (q0 := 0) rfl rfl rfl rfl hl rfl (Nat.le_of_ble_eq_true rfl) dX0_addCount_2 ⟨Nat.zero_le _, Nat.zero_le _⟩ (fun H locs hP hD hS => ?_)
  refine lv_if_eq (tgt := 18) hx hb dX0_addCount_5 (by decide) (fun c_3 => ?_) (fun c_3 => ?_)
  · have hf := x_t c_3 hf
    have hf := Option.some.inj hf
    cases hf
    exact x_vret hx hb hr hlocks hK hP hD hS dX0_addCount_18
  · have hf := x_f c_3 hf
    refine lv_aload_n hx hb dX0_addCount_8 rfl (lv_at hl 0 rfl) ?_
    refine x_get hx hb (C := RX0) (T := TX0) (N := 5) (ci := 0) hts iX0 hown hK hP 0 rfl rfl 4 (by decide) wd0 rfl (.ref a4) rfl dX0_addCount_9 ?_
    refine lv_iload_n hx hb dX0_addCount_12 rfl (lv_at hl 1 rfl) ?_
    refine lv_dup2_11 hx hb dX0_addCount_13 rfl rfl ?_
    obtain ⟨hi_4, hf⟩ := ckI_el hf
    refine va_lald hx hb hK hP 4 2 rfl rfl hi_4 dX0_addCount_14 ?_
    refine lv_lload_n hx hb dX0_addCount_15 rfl (lv_at hl 2 rfl) ?_
    refine lv_ladd hx hb dX0_addCount_16 ?_
    obtain ⟨hi_5, hf⟩ := ckI_el hf
    obtain ⟨co_6, eco_6, hf⟩ := lt_el hf
    refine x_last hx hb hK hP hD hS 4 rfl hi_5 eco_6 (w' := wX0 cy a0 a1 a2 a3 a4 sz nu ba mo co_6) rfl dX0_addCount_17 (fun H locs hP hD hS => ?_)
    have hf := Option.some.inj hf
    cases hf
    exact x_vret hx hb hr hlocks hK hP hD hS dX0_addCount_18
theorem kdX0_move : yX0_move.cls = RX0 ∧ yX0_move.cls ≠ "java/lang/invoke/MethodHandle" ∧ yX0_move.cls ≠ "java/lang/invoke/VarHandle" ∧ (parseMethodDescriptor yX0_move.desc).map (fun d => d.parameters.length) = some 2 := by decide +kernel
def rmX0_move : Room := { frames := 1, cells := 0, slots := 0, locals := 21 }
set_option maxHeartbeats 4000000 in
set_option maxRecDepth 100000 in
theorem mX0_move (l : Launch) (D : va_G) (cy : Nat → ClassId) (a0 a1 a2 a3 a4 : Nat) (sz : Int32) (nu : Nat → Int32) (ba : Nat → Int32) (mo : Nat → Int32) (co : Nat → Int64) (p1 : Int32) (p2 : Int32) (mo' : Nat → Int32) (hf : fX0_move sz mo p1 p2 = some mo') : xMv l D cy yX0_move aX0_move rmX0_move ([.ref a0, .int p1, .int p2] : List Value) (wX0 cy a0 a1 a2 a3 a4 sz nu ba mo co) (wX0 cy a0 a1 a2 a3 a4 sz nu ba mo' co) := by
  intro hz
  refine x_start (Qc := xQv D cy _) (cc := cX0_move) (maxL := 3) (ret := none) (by decide) rfl (Nat.le_of_ble_eq_true rfl) (lv := [(0, .ref a0), (1, .int p1), (2, .int p2)]) rfl ?_
  intro p e s m below meth c ls A hx hb hr hml hown hts hlocks hK hP hD hS hA hN hl
  have hown : s.vm.findClass RX0 = some m.cls := hown
  have hbg : ∀ w ∈ wsL_law, w ∈ aX0_move := fun w h => List.mem_cons_of_mem _ h
  have wd0 : (Cond.fieldLink RX0 22 "ClientMoneyBook$Accounts" "moved" "[I").before ([.ref a0, .int p1, .int p2] : List Value).toArray s = true := hts _ (List.mem_cons_of_mem _ wm_2_22)
  have iX0 : ∀ w ∈ u_ws RX0 TX0 5, w ∈ aX0_move := fun w h => List.mem_cons_of_mem _ (inlX0 w h)
  unfold fX0_move at hf
  refine lv_aload_n hx hb dX0_move_0 rfl (lv_at hl 0 rfl) ?_
  refine lv_iload_n hx hb dX0_move_1 rfl (lv_at hl 1 rfl) ?_
  obtain ⟨r_1, h_2, hf⟩ := bd1_el hf
  refine x_callVi (As := [.int p1]) (rest := []) ⟨hx, hb, hml, hown, hts⟩ (mX0_isPlace l D cy a0 a1 a2 a3 a4 sz nu ba mo co p1 r_1 h_2) (cwV 1 hts (gcV_X0_isPlace hbg wm_7_2) rfl rfl rfl kdX0_isPlace ⟨Nat.le_of_ble_eq_true rfl, Nat.le_of_ble_eq_true rfl⟩) (w1 := []) (w2 := []) (w' := wX0 cy a0 a1 a2 a3 a4 sz nu ba mo co) (List.append_nil _) (List.append_nil _) hP hK hD hN hS hA (q0 := 0) rfl rfl rfl rfl hl rfl (Nat.le_of_ble_eq_true rfl) dX0_move_2 ⟨Nat.zero_le _, Nat.zero_le _⟩ (fun H locs hP hD hS => ?_)
  refine lv_if_eq (tgt := 15) hx hb dX0_move_5 (by decide) (fun c_3 => ?_) (fun c_3 => ?_)
  · have hf := x_t c_3 hf
    have hf := Option.some.inj hf
    cases hf
    exact x_vret hx hb hr hlocks hK hP hD hS dX0_move_15
  · have hf := x_f c_3 hf
    refine lv_aload_n hx hb dX0_move_8 rfl (lv_at hl 0 rfl) ?_
    refine x_get hx hb (C := RX0) (T := TX0) (N := 5) (ci := 0) hts iX0 hown hK hP 0 rfl rfl 3 (by decide) wd0 rfl (.ref a3) rfl dX0_move_9 ?_
    refine lv_iload_n hx hb dX0_move_12 rfl (lv_at hl 1 rfl) ?_
    refine lv_iload_n hx hb dX0_move_13 rfl (lv_at hl 2 rfl) ?_
    obtain ⟨hi_4, hf⟩ := ckI_el hf
    obtain ⟨mo_5, emo_5, hf⟩ := lt_el hf
    refine x_iast hx hb hK hP hD hS 3 rfl hi_4 emo_5 (w' := wX0 cy a0 a1 a2 a3 a4 sz nu ba mo_5 co) rfl dX0_move_14 (fun H locs hP hD hS => ?_)
    have hf := Option.some.inj hf
    cases hf
    exact x_vret hx hb hr hlocks hK hP hD hS dX0_move_15
theorem kdX0_sumOfBalances : yX0_sumOfBalances.cls = RX0 ∧ yX0_sumOfBalances.cls ≠ "java/lang/invoke/MethodHandle" ∧ yX0_sumOfBalances.cls ≠ "java/lang/invoke/VarHandle" ∧ (parseMethodDescriptor yX0_sumOfBalances.desc).map (fun d => d.parameters.length) = some 0 := by decide +kernel
def rmX0_sumOfBalances : Room := { frames := 2, cells := 0, slots := 0, locals := 42 }
set_option maxHeartbeats 4000000 in
set_option maxRecDepth 100000 in
theorem mX0_sumOfBalances (l : Launch) (D : va_G) (cy : Nat → ClassId) (a0 a1 a2 a3 a4 : Nat) (sz : Int32) (nu : Nat → Int32) (ba : Nat → Int32) (mo : Nat → Int32) (co : Nat → Int64)  (r : Int64) (hf : fX0_sumOfBalances sz ba = some r) : xMl l D cy yX0_sumOfBalances aX0_sumOfBalances rmX0_sumOfBalances ([.ref a0] : List Value) (wX0 cy a0 a1 a2 a3 a4 sz nu ba mo co) (wX0 cy a0 a1 a2 a3 a4 sz nu ba mo co) r := by
  intro hz
  refine x_start (Qc := xQl D cy _ r) (cc := cX0_sumOfBalances) (maxL := 4) (ret := (some .long)) (by decide) rfl (Nat.le_of_ble_eq_true rfl) (lv := [(0, .ref a0)]) rfl ?_
  intro p e s m below meth c ls A hx hb hr hml hown hts hlocks hK hP hD hS hA hN hl
  have hown : s.vm.findClass RX0 = some m.cls := hown
  have hbg : ∀ w ∈ wsL_law, w ∈ aX0_sumOfBalances := fun w h => List.mem_cons_of_mem _ h
  have wd0 : (Cond.fieldLink RX0 9 "ClientMoneyBook$Accounts" "size" "I").before ([.ref a0] : List Value).toArray s = true := hts _ (List.mem_cons_of_mem _ wm_2_19)
  have iX0 : ∀ w ∈ u_ws RX0 TX0 5, w ∈ aX0_sumOfBalances := fun w h => List.mem_cons_of_mem _ (inlX0 w h)
  unfold fX0_sumOfBalances at hf
  refine lv_lconst (v := 0) hx hb dX0_sumOfBalances_0 (by decide) ?_
  refine lv_lstore_n (lv' := [(1, .long 0), (0, .ref a0)]) hx hb dX0_sumOfBalances_1 rfl hl (by decide) rfl (fun ls hl => ?_)
  refine lv_iconst (v := 0) hx hb dX0_sumOfBalances_2 (by decide) ?_
  refine lv_istore_n (lv' := [(3, .int 0), (1, .long 0), (0, .ref a0)]) hx hb dX0_sumOfBalances_3 rfl hl (by decide) rfl (fun ls hl => ?_)
  have hL_4 : ∀ (n : Nat) (z1_6 : Int64) (z3_7 : Int32) (o : Int64) (H : Heap) (locs : List Loc) (ls : Array Slot), fX0_sumOfBalances_L4 sz ba n z1_6 z3_7 = some o → va_P D vwCl (wX0 cy a0 a1 a2 a3 a4 sz nu ba mo co) H → va_D A (wX0 cy a0 a1 a2 a3 a4 sz nu ba mo co) → va_S A s.heap H locs → lv_has ls 4 [(0, .ref a0), (1, .long z1_6), (3, .int z3_7)] → True → ((∀ (x1_8 : Int64) , o = x1_8 → ∀ (H : Heap) (locs : List Loc) (ls : Array Slot), va_P D vwCl (wX0 cy a0 a1 a2 a3 a4 sz nu ba mo co) H → va_D A (wX0 cy a0 a1 a2 a3 a4 sz nu ba mo co) → va_S A s.heap H locs → lv_has ls 4 [(1, .long x1_8)] →  W p l e rmX0_sumOfBalances s m ([.ref a0] : List Value).toArray below meth c H locs 0 0 (MQ below (xQl D cy (wX0 cy a0 a1 a2 a3 a4 sz nu ba mo co) r A) ([.ref a0] : List Value).toArray s 0 0 A) (F0 m 27 ls []))) → W p l e rmX0_sumOfBalances s m ([.ref a0] : List Value).toArray below meth c H locs 0 0 (MQ below (xQl D cy (wX0 cy a0 a1 a2 a3 a4 sz nu ba mo co) r A) ([.ref a0] : List Value).toArray s 0 0 A) (F0 m 4 ls []) := by
    intro n
    induction n with
    | zero =>
      intro z1_6 z3_7 o_4 H locs ls hf
      rw [fX0_sumOfBalances_L4] at hf
      cases hf
    | succ n ih =>
      intro z1_6 z3_7 o_4 H locs ls hf hP hD hS hl hr_4 kx_4
      rw [fX0_sumOfBalances_L4] at hf
      refine lv_iload_n hx hb dX0_sumOfBalances_4 rfl (lv_at hl 2 rfl) ?_
      refine lv_aload_n hx hb dX0_sumOfBalances_5 rfl (lv_at hl 0 rfl) ?_
      refine x_get hx hb (C := RX0) (T := TX0) (N := 5) (ci := 0) hts iX0 hown hK hP 0 rfl rfl 0 (by decide) wd0 rfl (.int sz) rfl dX0_sumOfBalances_6 ?_
      refine lv_icmp_ge (tgt := 27) hx hb dX0_sumOfBalances_9 (by decide) (fun c_9 => ?_) (fun c_9 => ?_)
      · have hf := x_t c_9 hf
        exact kx_4 z1_6 (Option.some.inj hf).symm _ _ _ hP hD hS (lv_sub hl [1] rfl)
      · have hf := x_f c_9 hf
        refine lv_lload_n hx hb dX0_sumOfBalances_12 rfl (lv_at hl 1 rfl) ?_
        refine lv_aload_n hx hb dX0_sumOfBalances_13 rfl (lv_at hl 0 rfl) ?_
        refine lv_iload_n hx hb dX0_sumOfBalances_14 rfl (lv_at hl 2 rfl) ?_
        obtain ⟨r_10, h_11, hf⟩ := bd1_el hf
        refine x_callVi (As := [.int z3_7]) (rest := [.long z1_6]) ⟨hx, hb, hml, hown, hts⟩ (mX0_balanceAt l D cy a0 a1 a2 a3 a4 sz nu ba mo co z3_7 r_10 h_11) (cwV 1 hts (gcV_X0_balanceAt hbg wm_22_23) rfl rfl rfl kdX0_balanceAt ⟨Nat.le_of_ble_eq_true rfl, Nat.le_of_ble_eq_true rfl⟩) (w1 := []) (w2 := []) (w' := wX0 cy a0 a1 a2 a3 a4 sz nu ba mo co) (List.append_nil _) (List.append_nil _) hP hK hD hN hS hA (q0 := 0) rfl rfl rfl rfl hl rfl (Nat.le_of_ble_eq_true rfl) dX0_sumOfBalances_15 ⟨Nat.zero_le _, Nat.zero_le _⟩ (fun H locs hP hD hS => ?_)
        refine lv_i2l (v := r_10.toInt64) hx hb dX0_sumOfBalances_18 rfl ?_
        refine lv_ladd hx hb dX0_sumOfBalances_19 ?_
        obtain ⟨x1_12, ex1_12, hf⟩ := lt_el hf
        refine x_topl ex1_12 ?_
        refine lv_lstore_n (lv' := [(1, .long x1_12), (0, .ref a0), (3, .int z3_7)]) hx hb dX0_sumOfBalances_20 rfl hl (by decide) rfl (fun ls hl => ?_)
        refine lv_iinc (v := (z3_7 + 1)) (lv' := [(3, .int (z3_7 + 1)), (1, .long x1_12), (0, .ref a0)]) hx hb dX0_sumOfBalances_21 hl (k := 2) rfl rfl (by decide) rfl (fun ls hl => ?_)
        refine lv_goto (tgt := 4) hx hb dX0_sumOfBalances_24 (by decide) ?_
        exact ih x1_12 (z3_7 + 1) _ _ _ _ hf hP hD hS (lv_sub hl [2, 1, 0] rfl) hr_4 kx_4
  obtain ⟨x1_5, h1_4, hf⟩ := bd1_el hf
  refine hL_4 2147483648 0 0 _ _ _ _ h1_4 hP hD hS (lv_sub hl [2, 1, 0] rfl) trivial (fun x1_59 ho H locs ls hP hD hS hl => ?_)
  cases ho
  refine lv_lload_n hx hb dX0_sumOfBalances_27 rfl (lv_at hl 0 rfl) ?_
  have hf := Option.some.inj hf
  cases hf
  exact x_lret hx hb hr hlocks hK hP hD hS dX0_sumOfBalances_28
