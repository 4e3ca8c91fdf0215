theorem kdX2_firstError : yX2_firstError.cls = RX2 ∧ yX2_firstError.cls ≠ "java/lang/invoke/MethodHandle" ∧ yX2_firstError.cls ≠ "java/lang/invoke/VarHandle" ∧ (parseMethodDescriptor yX2_firstError.desc).map (fun d => d.parameters.length) = some 0 := by decide +kernel
def rmX2_firstError : Room := { frames := 5, cells := 0, slots := 0, locals := 110 }
set_option maxHeartbeats 4000000 in
set_option maxRecDepth 100000 in
theorem mX2_firstError (l : Launch) (D : va_G) (cy : Nat → ClassId) (a0 a1 : Nat) (le : Int32) (ch : Nat → Int32) (po : Int32) (ltr : Int32) (fi : Int32) (se : Int32) (th : Int32)  (r : Int32) (hf : fX2_firstError le ch = some r) : xMi l D cy yX2_firstError aX2_firstError rmX2_firstError ([.ref a0] : List Value) (wX2 cy a0 a1 le ch po ltr fi se th) (wX2 cy a0 a1 le ch po ltr fi se th) r := by
  intro hz
  refine x_start (Qc := xQi D cy _ r) (cc := cX2_firstError) (maxL := 6) (ret := (some .int)) (by decide) rfl (Nat.le_of_ble_eq_true rfl) (lv := [(0, .ref a0)]) rfl ?_
  intro p e s m below meth c ls A hx hb hr hml hown hts hlocks hK hP hD hS hA hN hl
  have hown : s.vm.findClass RX2 = some m.cls := hown
  have hbg : ∀ w ∈ wsL_law, w ∈ aX2_firstError := fun w h => List.mem_cons_of_mem _ h
  have wd0 : (Cond.fieldLink RX2 9 "ClientMoneyBook$OrderText" "length" "I").before ([.ref a0] : List Value).toArray s = true := hts _ (List.mem_cons_of_mem _ wm_3_15)
  have iX2 : ∀ w ∈ u_ws RX2 TX2 7, w ∈ aX2_firstError := fun w h => List.mem_cons_of_mem _ (inlX2 w h)
  obtain ⟨-, hCS, adK, adV, hvR, hvS⟩ := id hN
  unfold fX2_firstError at hf
  refine lv_iconst (v := 0) hx hb dX2_firstError_0 (by decide) ?_
  refine lv_istore_n (lv' := [(1, .int 0), (0, .ref a0)]) hx hb dX2_firstError_1 rfl hl (by decide) rfl (fun ls hl => ?_)
  refine lv_iconst (v := 0) hx hb dX2_firstError_2 (by decide) ?_
  refine lv_istore_n (lv' := [(2, .int 0), (1, .int 0), (0, .ref a0)]) hx hb dX2_firstError_3 rfl hl (by decide) rfl (fun ls hl => ?_)
  refine lv_iconst (v := 0) hx hb dX2_firstError_4 (by decide) ?_
  refine lv_istore_n (lv' := [(3, .int 0), (2, .int 0), (1, .int 0), (0, .ref a0)]) hx hb dX2_firstError_5 rfl hl (by decide) rfl (fun ls hl => ?_)
  refine lv_iconst (v := 0) hx hb dX2_firstError_6 (by decide) ?_
  refine lv_istore (lv' := [(4, .int 0), (3, .int 0), (2, .int 0), (1, .int 0), (0, .ref a0)]) hx hb dX2_firstError_7 hl (by decide) rfl (fun ls hl => ?_)
  have hL_9 : ∀ (n : Nat) (z1_28 : Int32) (z2_29 : Int32) (z3_30 : Int32) (z4_31 : Int32) (o : (Int32) ⊕ (Int32 × Int32 × Int32)) (H : Heap) (locs : List Loc) (ls : Array Slot), fX2_firstError_L9 le ch n z1_28 z2_29 z3_30 z4_31 = some o → va_P D vwCl (wX2 cy a0 a1 le ch po ltr fi se th) H → va_D A (wX2 cy a0 a1 le ch po ltr fi se th) → va_S A s.heap H locs → lv_has ls 6 [(0, .ref a0), (1, .int z1_28), (2, .int z2_29), (3, .int z3_30), (4, .int z4_31)] → (∀ r', o = .inl r' → r' = r) → ((∀ (x1_32 : Int32) (x2_33 : Int32) (x3_34 : Int32) , o = (.inr (x1_32, x2_33, x3_34)) → ∀ (H : Heap) (locs : List Loc) (ls : Array Slot), va_P D vwCl (wX2 cy a0 a1 le ch po ltr fi se th) H → va_D A (wX2 cy a0 a1 le ch po ltr fi se th) → va_S A s.heap H locs → lv_has ls 6 [(0, .ref a0), (1, .int x1_32), (2, .int x2_33), (3, .int x3_34)] → W p l e rmX2_firstError s m ([.ref a0] : List Value).toArray below meth c H locs 0 0 (MQ below (xQi D cy (wX2 cy a0 a1 le ch po ltr fi se th) r A) ([.ref a0] : List Value).toArray s 0 0 A) (F0 m 116 ls []))) → W p l e rmX2_firstError s m ([.ref a0] : List Value).toArray below meth c H locs 0 0 (MQ below (xQi D cy (wX2 cy a0 a1 le ch po ltr fi se th) r A) ([.ref a0] : List Value).toArray s 0 0 A) (F0 m 9 ls []) := by
    intro n
    induction n with
    | zero =>
      intro z1_28 z2_29 z3_30 z4_31 o_9 H locs ls hf
      rw [fX2_firstError_L9] at hf
      cases hf
    | succ n ih =>
      intro z1_28 z2_29 z3_30 z4_31 o_9 H locs ls hf hP hD hS hl hr_9 kx_9
      rw [fX2_firstError_L9] at hf
      refine lv_iload hx hb dX2_firstError_9 (lv_at hl 4 rfl) ?_
      refine lv_aload_n hx hb dX2_firstError_11 rfl (lv_at hl 0 rfl) ?_
      refine x_get hx hb (C := RX2) (T := TX2) (N := 7) (ci := 2) hts iX2 hown hK hP 0 rfl rfl 0 (by decide) wd0 rfl (.int le) rfl dX2_firstError_12 ?_
      refine lv_icmp_ge (tgt := 116) hx hb dX2_firstError_15 (by decide) (fun c_35 => ?_) (fun c_35 => ?_)
      · have hf := x_t c_35 hf
        exact kx_9 z1_28 z2_29 z3_30 (Option.some.inj hf).symm _ _ _ hP hD hS (lv_sub hl [0, 1, 2, 3] rfl)
      · have hf := x_f c_35 hf
        refine lv_aload_n hx hb dX2_firstError_18 rfl (lv_at hl 0 rfl) ?_
        refine lv_iload hx hb dX2_firstError_19 (lv_at hl 4 rfl) ?_
        obtain ⟨r_36, h_37, hf⟩ := bd1_el hf
        refine x_callVi (As := [.int z4_31]) (rest := []) ⟨hx, hb, hml, hown, hts⟩ (mX2_at l D cy a0 a1 le ch po ltr fi se th z4_31 r_36 h_37) (cwV 1 hts (gcV_X2_at hbg wm_35_3) rfl rfl rfl kdX2_at ⟨Nat.le_of_ble_eq_true rfl, Nat.le_of_ble_eq_true rfl⟩) (w1 := []) (w2 := []) (w' := wX2 cy a0 a1 le ch po ltr fi se th) (List.append_nil _) (List.append_nil _) hP hK hD hN hS hA (q0 := 0) rfl rfl rfl rfl hl rfl (Nat.le_of_ble_eq_true rfl) dX2_firstError_21 ⟨Nat.zero_le _, Nat.zero_le _⟩ (fun H locs hP hD hS => ?_)
        refine lv_istore (lv' := [(5, .int r_36), (0, .ref a0), (1, .int z1_28), (2, .int z2_29), (3, .int z3_30), (4, .int z4_31)]) hx hb dX2_firstError_24 hl (by decide) rfl (fun ls hl => ?_)
        refine lv_iload_n hx hb dX2_firstError_26 rfl (lv_at hl 2 rfl) ?_
        refine lv_if_ne (tgt := 53) hx hb dX2_firstError_27 (by decide) (fun c_38 => ?_) (fun c_38 => ?_)
        · have hf := x_f c_38 hf
          refine lv_iload hx hb dX2_firstError_53 (lv_at hl 0 rfl) ?_
          obtain ⟨r_39, h_40, hf⟩ := bd1_el hf
          refine x_callSi (As := [.int r_36]) (rest := []) ⟨hx, hb, hml, hown, hts⟩ (mX2_isDigit l D cy   r_36 r_39 h_40) (va_cwS 1 hts (gcS_X2_isDigit hbg wm_38_21) rfl rfl rfl kdX2_isDigit ⟨Nat.le_of_ble_eq_true rfl, Nat.le_of_ble_eq_true rfl⟩) (w1 := []) (w2 := wX2 cy a0 a1 le ch po ltr fi se th) (w' := wX2 cy a0 a1 le ch po ltr fi se th) rfl rfl hP hK hD hN hS hA rfl hl rfl (Nat.le_of_ble_eq_true rfl) dX2_firstError_55 ⟨Nat.zero_le _, Nat.zero_le _⟩ (fun H locs hP hD hS => ?_)
          refine lv_if_eq (tgt := 76) hx hb dX2_firstError_58 (by decide) (fun c_41 => ?_) (fun c_41 => ?_)
          · have hf := x_t c_41 hf
            refine lv_iload_n hx hb dX2_firstError_76 rfl (lv_at hl 4 rfl) ?_
            refine lv_if_eq (tgt := 90) hx hb dX2_firstError_77 (by decide) (fun c_42 => ?_) (fun c_42 => ?_)
            · have hf := x_t c_42 hf
              refine lv_iload hx hb dX2_firstError_90 (lv_at hl 5 rfl) ?_
              have hf := Option.some.inj hf
              have hf := (hr_9 _ hf.symm)
              cases hf
              exact x_iret hx hb hr hlocks hK hP hD hS dX2_firstError_92
            · have hf := x_f c_42 hf
              refine lv_iload hx hb dX2_firstError_80 (lv_at hl 0 rfl) ?_
              refine lv_iload_n hx hb dX2_firstError_82 rfl (lv_at hl 2 rfl) ?_
              refine lv_iload_n hx hb dX2_firstError_83 rfl (lv_at hl 3 rfl) ?_
              obtain ⟨r_43, h_44, hf⟩ := bd1_el hf
              refine x_callSi (As := [.int z1_28, .int z2_29]) (rest := [.int r_36]) ⟨hx, hb, hml, hown, hts⟩ (mX2_signAfter l D cy   z1_28 z2_29 r_43 h_44) (va_cwS 2 hts (gcS_X2_signAfter hbg wm_39_0) rfl rfl rfl kdX2_signAfter ⟨Nat.le_of_ble_eq_true rfl, Nat.le_of_ble_eq_true rfl⟩) (w1 := []) (w2 := wX2 cy a0 a1 le ch po ltr fi se th) (w' := wX2 cy a0 a1 le ch po ltr fi se th) rfl rfl hP hK hD hN hS hA rfl hl rfl (Nat.le_of_ble_eq_true rfl) dX2_firstError_84 ⟨Nat.zero_le _, Nat.zero_le _⟩ (fun H locs hP hD hS => ?_)
              refine lv_icmp_eq (tgt := 93) hx hb dX2_firstError_87 (by decide) (fun c_45 => ?_) (fun c_45 => ?_)
              · have hf := x_t c_45 hf
                refine lv_iload hx hb dX2_firstError_93 (lv_at hl 0 rfl) ?_
                refine lv_bipush (v := 59) hx hb dX2_firstError_95 (by decide) ?_
                refine lv_icmp_ne (tgt := 105) hx hb dX2_firstError_97 (by decide) (fun c_46 => ?_) (fun c_46 => ?_)
                · have hf := x_f c_46 hf
                  refine lv_iinc (v := (z2_29 + 1)) (lv' := [(2, .int (z2_29 + 1)), (5, .int r_36), (0, .ref a0), (1, .int z1_28), (3, .int z3_30), (4, .int z4_31)]) hx hb dX2_firstError_105 hl (k := 3) rfl rfl (by decide) rfl (fun ls hl => ?_)
                  refine lv_iconst (v := 0) hx hb dX2_firstError_108 (by decide) ?_
                  refine lv_istore_n (lv' := [(3, .int 0), (2, .int (z2_29 + 1)), (5, .int r_36), (0, .ref a0), (1, .int z1_28), (4, .int z4_31)]) hx hb dX2_firstError_109 rfl hl (by decide) rfl (fun ls hl => ?_)
                  refine lv_iinc (v := (z4_31 + 1)) (lv' := [(4, .int (z4_31 + 1)), (3, .int 0), (2, .int (z2_29 + 1)), (5, .int r_36), (0, .ref a0), (1, .int z1_28)]) hx hb dX2_firstError_110 hl (k := 5) rfl rfl (by decide) rfl (fun ls hl => ?_)
                  refine lv_goto (tgt := 9) hx hb dX2_firstError_113 (by decide) ?_
                  exact ih z1_28 (z2_29 + 1) 0 (z4_31 + 1) _ _ _ _ hf hP hD hS (lv_sub hl [4, 5, 2, 1, 0] rfl) hr_9 kx_9
                · have hf := x_t c_46 hf
                  refine lv_iconst (v := 0) hx hb dX2_firstError_100 (by decide) ?_
                  refine lv_istore_n (lv' := [(1, .int 0), (5, .int r_36), (0, .ref a0), (2, .int z2_29), (3, .int z3_30), (4, .int z4_31)]) hx hb dX2_firstError_101 rfl hl (by decide) rfl (fun ls hl => ?_)
                  refine lv_goto (tgt := 110) hx hb dX2_firstError_102 (by decide) ?_
                  refine lv_iinc (v := (z4_31 + 1)) (lv' := [(4, .int (z4_31 + 1)), (1, .int 0), (5, .int r_36), (0, .ref a0), (2, .int z2_29), (3, .int z3_30)]) hx hb dX2_firstError_110 hl (k := 5) rfl rfl (by decide) rfl (fun ls hl => ?_)
                  refine lv_goto (tgt := 9) hx hb dX2_firstError_113 (by decide) ?_
                  exact ih 0 z2_29 z3_30 (z4_31 + 1) _ _ _ _ hf hP hD hS (lv_sub hl [3, 1, 4, 5, 0] rfl) hr_9 kx_9
              · have hf := x_f c_45 hf
                refine lv_iload hx hb dX2_firstError_90 (lv_at hl 5 rfl) ?_
                have hf := Option.some.inj hf
                have hf := (hr_9 _ hf.symm)
                cases hf
                exact x_iret hx hb hr hlocks hK hP hD hS dX2_firstError_92
          · have hf := x_f c_41 hf
            refine lv_iload_n hx hb dX2_firstError_61 rfl (lv_at hl 4 rfl) ?_
            refine lv_bipush (v := 6) hx hb dX2_firstError_62 (by decide) ?_
            refine lv_icmp_ne (tgt := 70) hx hb dX2_firstError_64 (by decide) (fun c_47 => ?_) (fun c_47 => ?_)
            · have hf := x_f c_47 hf
              refine lv_iinc (v := (z3_30 + 1)) (lv' := [(3, .int (z3_30 + 1)), (5, .int r_36), (0, .ref a0), (1, .int z1_28), (2, .int z2_29), (4, .int z4_31)]) hx hb dX2_firstError_70 hl (k := 4) rfl rfl (by decide) rfl (fun ls hl => ?_)
              refine lv_goto (tgt := 110) hx hb dX2_firstError_73 (by decide) ?_
              refine lv_iinc (v := (z4_31 + 1)) (lv' := [(4, .int (z4_31 + 1)), (3, .int (z3_30 + 1)), (5, .int r_36), (0, .ref a0), (1, .int z1_28), (2, .int z2_29)]) hx hb dX2_firstError_110 hl (k := 5) rfl rfl (by decide) rfl (fun ls hl => ?_)
              refine lv_goto (tgt := 9) hx hb dX2_firstError_113 (by decide) ?_
              exact ih z1_28 z2_29 (z3_30 + 1) (z4_31 + 1) _ _ _ _ hf hP hD hS (lv_sub hl [3, 4, 5, 1, 0] rfl) hr_9 kx_9
            · have hf := x_t c_47 hf
              refine lv_iload hx hb dX2_firstError_67 (lv_at hl 5 rfl) ?_
              have hf := Option.some.inj hf
              have hf := (hr_9 _ hf.symm)
              cases hf
              exact x_iret hx hb hr hlocks hK hP hD hS dX2_firstError_69
        · have hf := x_t c_38 hf
          refine va_ldcS hx hb hown hvR dX2_firstError_30 ?_
          refine lv_iload hx hb dX2_firstError_32 (lv_at hl 0 rfl) ?_
          obtain ⟨ix_48, eix_48, hf⟩ := lt_el hf
          refine x_ixOf (v := r_36) (rest := []) ⟨hx, hb, hml, hown, hts⟩ (gcV_J0_indexOf_0f7a4 hbg wm_35_7) hK hP hD hN hvR hvS hS hA hl (Nat.le_of_ble_eq_true rfl) dX2_firstError_34 ⟨Nat.le_of_ble_eq_true rfl, Nat.le_of_ble_eq_true rfl⟩ ⟨Nat.zero_le _, Nat.zero_le _⟩ (fun H locs hP hD hS => ?_)
          refine x_topi eix_48 ?_
          refine lv_if_ge (tgt := 43) hx hb dX2_firstError_37 (by decide) (fun c_49 => ?_) (fun c_49 => ?_)
          · have hf := x_t c_49 hf
            refine lv_iload hx hb dX2_firstError_43 (lv_at hl 0 rfl) ?_
            refine lv_istore_n (lv' := [(1, .int r_36), (5, .int r_36), (0, .ref a0), (2, .int z2_29), (3, .int z3_30), (4, .int z4_31)]) hx hb dX2_firstError_45 rfl hl (by decide) rfl (fun ls hl => ?_)
            refine lv_iconst (v := 0) hx hb dX2_firstError_46 (by decide) ?_
            refine lv_istore_n (lv' := [(2, .int 0), (1, .int r_36), (5, .int r_36), (0, .ref a0), (3, .int z3_30), (4, .int z4_31)]) hx hb dX2_firstError_47 rfl hl (by decide) rfl (fun ls hl => ?_)
            refine lv_iconst (v := 0) hx hb dX2_firstError_48 (by decide) ?_
            refine lv_istore_n (lv' := [(3, .int 0), (2, .int 0), (1, .int r_36), (5, .int r_36), (0, .ref a0), (4, .int z4_31)]) hx hb dX2_firstError_49 rfl hl (by decide) rfl (fun ls hl => ?_)
            refine lv_goto (tgt := 110) hx hb dX2_firstError_50 (by decide) ?_
            refine lv_iinc (v := (z4_31 + 1)) (lv' := [(4, .int (z4_31 + 1)), (3, .int 0), (2, .int 0), (1, .int r_36), (5, .int r_36), (0, .ref a0)]) hx hb dX2_firstError_110 hl (k := 5) rfl rfl (by decide) rfl (fun ls hl => ?_)
            refine lv_goto (tgt := 9) hx hb dX2_firstError_113 (by decide) ?_
            exact ih r_36 0 0 (z4_31 + 1) _ _ _ _ hf hP hD hS (lv_sub hl [5, 3, 2, 1, 0] rfl) hr_9 kx_9
          · have hf := x_f c_49 hf
            refine lv_iload hx hb dX2_firstError_40 (lv_at hl 5 rfl) ?_
            have hf := Option.some.inj hf
            have hf := (hr_9 _ hf.symm)
            cases hf
            exact x_iret hx hb hr hlocks hK hP hD hS dX2_firstError_42
  obtain ⟨o_9, h1_9, hr_9, hf⟩ := bs3_el hf
  refine hL_9 2147483648 0 0 0 0 o_9 _ _ _ h1_9 hP hD hS (lv_sub hl [4, 3, 2, 1, 0] rfl) hr_9 (fun x1_16 x2_17 x3_18 ho H locs ls hP hD hS hl => ?_)
  have hf := hf x1_16 x2_17 x3_18 ho
  refine lv_iload_n hx hb dX2_firstError_116 rfl (lv_at hl 1 rfl) ?_
  refine lv_if_eq (tgt := 138) hx hb dX2_firstError_117 (by decide) (fun c_19 => ?_) (fun c_19 => ?_)
  · have hf := x_t c_19 hf
    refine lv_iconst (v := 0) hx hb dX2_firstError_138 (by decide) ?_
    refine lv_istore (lv' := [(4, .int 0), (0, .ref a0), (1, .int x1_16), (2, .int x2_17), (3, .int x3_18)]) hx hb dX2_firstError_139 hl (by decide) rfl (fun ls hl => ?_)
    refine lv_iload hx hb dX2_firstError_141 (lv_at hl 0 rfl) ?_
    refine lv_if_eq (tgt := 151) hx hb dX2_firstError_143 (by decide) (fun c_20 => ?_) (fun c_20 => ?_)
    · refine lv_aload_n hx hb dX2_firstError_151 rfl (lv_at hl 1 rfl) ?_
      refine x_get hx hb (C := RX2) (T := TX2) (N := 7) (ci := 2) hts iX2 hown hK hP 0 rfl rfl 0 (by decide) wd0 rfl (.int le) rfl dX2_firstError_152 ?_
      have hf := Option.some.inj hf
      cases hf
      exact x_iret hx hb hr hlocks hK hP hD hS dX2_firstError_155
    · exact absurd (by decide) c_20
  · have hf := x_f c_19 hf
    refine lv_iload_n hx hb dX2_firstError_120 rfl (lv_at hl 3 rfl) ?_
    refine lv_if_le (tgt := 138) hx hb dX2_firstError_121 (by decide) (fun c_21 => ?_) (fun c_21 => ?_)
    · have hf := x_t c_21 hf
      refine lv_iconst (v := 0) hx hb dX2_firstError_138 (by decide) ?_
      refine lv_istore (lv' := [(4, .int 0), (0, .ref a0), (1, .int x1_16), (2, .int x2_17), (3, .int x3_18)]) hx hb dX2_firstError_139 hl (by decide) rfl (fun ls hl => ?_)
      refine lv_iload hx hb dX2_firstError_141 (lv_at hl 0 rfl) ?_
      refine lv_if_eq (tgt := 151) hx hb dX2_firstError_143 (by decide) (fun c_22 => ?_) (fun c_22 => ?_)
      · refine lv_aload_n hx hb dX2_firstError_151 rfl (lv_at hl 1 rfl) ?_
        refine x_get hx hb (C := RX2) (T := TX2) (N := 7) (ci := 2) hts iX2 hown hK hP 0 rfl rfl 0 (by decide) wd0 rfl (.int le) rfl dX2_firstError_152 ?_
        have hf := Option.some.inj hf
        cases hf
        exact x_iret hx hb hr hlocks hK hP hD hS dX2_firstError_155
      · exact absurd (by decide) c_22
    · have hf := x_f c_21 hf
      refine lv_iload_n hx hb dX2_firstError_124 rfl (lv_at hl 1 rfl) ?_
      refine lv_iload_n hx hb dX2_firstError_125 rfl (lv_at hl 2 rfl) ?_
      obtain ⟨r_23, h_24, hf⟩ := bd1_el hf
      refine x_callSi (As := [.int x1_16, .int x2_17]) (rest := []) ⟨hx, hb, hml, hown, hts⟩ (mX2_signAfter l D cy   x1_16 x2_17 r_23 h_24) (va_cwS 2 hts (gcS_X2_signAfter hbg wm_39_0) rfl rfl rfl kdX2_signAfter ⟨Nat.le_of_ble_eq_true rfl, Nat.le_of_ble_eq_true rfl⟩) (w1 := []) (w2 := wX2 cy a0 a1 le ch po ltr fi se th) (w' := wX2 cy a0 a1 le ch po ltr fi se th) rfl rfl hP hK hD hN hS hA rfl hl rfl (Nat.le_of_ble_eq_true rfl) dX2_firstError_126 ⟨Nat.zero_le _, Nat.zero_le _⟩ (fun H locs hP hD hS => ?_)
      refine lv_bipush (v := 59) hx hb dX2_firstError_129 (by decide) ?_
      refine lv_icmp_ne (tgt := 138) hx hb dX2_firstError_131 (by decide) (fun c_25 => ?_) (fun c_25 => ?_)
      · have hf := x_f c_25 hf
        refine lv_iconst (v := 0) hx hb dX2_firstError_138 (by decide) ?_
        refine lv_istore (lv' := [(4, .int 0), (0, .ref a0), (1, .int x1_16), (2, .int x2_17), (3, .int x3_18)]) hx hb dX2_firstError_139 hl (by decide) rfl (fun ls hl => ?_)
        refine lv_iload hx hb dX2_firstError_141 (lv_at hl 0 rfl) ?_
        refine lv_if_eq (tgt := 151) hx hb dX2_firstError_143 (by decide) (fun c_26 => ?_) (fun c_26 => ?_)
        · refine lv_aload_n hx hb dX2_firstError_151 rfl (lv_at hl 1 rfl) ?_
          refine x_get hx hb (C := RX2) (T := TX2) (N := 7) (ci := 2) hts iX2 hown hK hP 0 rfl rfl 0 (by decide) wd0 rfl (.int le) rfl dX2_firstError_152 ?_
          have hf := Option.some.inj hf
          cases hf
          exact x_iret hx hb hr hlocks hK hP hD hS dX2_firstError_155
        · exact absurd (by decide) c_26
      · have hf := x_t c_25 hf
        refine lv_iconst (v := 1) hx hb dX2_firstError_134 (by decide) ?_
        refine lv_goto (tgt := 139) hx hb dX2_firstError_135 (by decide) ?_
        refine lv_istore (lv' := [(4, .int 1), (0, .ref a0), (1, .int x1_16), (2, .int x2_17), (3, .int x3_18)]) hx hb dX2_firstError_139 hl (by decide) rfl (fun ls hl => ?_)
        refine lv_iload hx hb dX2_firstError_141 (lv_at hl 0 rfl) ?_
        refine lv_if_eq (tgt := 151) hx hb dX2_firstError_143 (by decide) (fun c_27 => ?_) (fun c_27 => ?_)
        · exact absurd c_27 (by decide)
        · refine lv_bipush (v := (-6)) hx hb dX2_firstError_146 (by decide) ?_
          refine lv_goto (tgt := 155) hx hb dX2_firstError_148 (by decide) ?_
          have hf := Option.some.inj hf
          cases hf
          exact x_iret hx hb hr hlocks hK hP hD hS dX2_firstError_155
