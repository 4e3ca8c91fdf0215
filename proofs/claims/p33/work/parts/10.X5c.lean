theorem kdX5_aboutClient : yX5_aboutClient.cls = RX5 ∧ yX5_aboutClient.cls ≠ "java/lang/invoke/MethodHandle" ∧ yX5_aboutClient.cls ≠ "java/lang/invoke/VarHandle" ∧ (parseMethodDescriptor yX5_aboutClient.desc).map (fun d => d.parameters.length) = some 2 := by decide +kernel
def rmX5_aboutClient : Room := { frames := 3, cells := 0, slots := 0, locals := 67 }
set_option maxHeartbeats 4000000 in
set_option maxRecDepth 100000 in
theorem mX5_aboutClient (l : Launch) (D : va_G) (cy : Nat → ClassId) (a0 a1 a2 a3 a4 a5 a6 a7 a8 a9 a10 a11 : Nat) (Asz : Int32) (Anu : Nat → Int32) (Aba : Nat → Int32) (Amo : Nat → Int32) (Aco : Nat → Int64) (Hsz : Int32) (Hla : Int32) (Hce : Nat → Int32) (Bsz : Int32) (Bla : Int32) (Bce : Nat → Int32) (Tma : Int32) (Tlc : Int32) (Ttc : Nat → Int32) (day : Int32) (lim : Int32) (low : Int32) (hig : Int32) (thr : Int32) (off : Int64) (cre : Int64) (rcp : Int64) (pay : Int64) (p1 : Int32) (p2 : Int32) (r : Int32) (hf : fX5_aboutClient Asz Anu Aba Amo Aco Hsz Hce Bsz Bce p1 p2 = some r) : xMi l D cy yX5_aboutClient aX5_aboutClient rmX5_aboutClient ([.ref a0, .int p1, .int p2] : List Value) (wX5 cy a0 a1 a2 a3 a4 a5 a6 a7 a8 a9 a10 a11 Asz Anu Aba Amo Aco Hsz Hla Hce Bsz Bla Bce Tma Tlc Ttc day lim low hig thr off cre rcp pay) (wX5 cy a0 a1 a2 a3 a4 a5 a6 a7 a8 a9 a10 a11 Asz Anu Aba Amo Aco Hsz Hla Hce Bsz Bla Bce Tma Tlc Ttc day lim low hig thr off cre rcp pay) r := by
  intro hz
  refine x_start (Qc := xQi D cy _ r) (cc := cX5_aboutClient) (maxL := 4) (ret := (some .int)) (by decide) rfl (Nat.le_of_ble_eq_true rfl) (lv := [(0, .ref a0), (1, .int p1), (2, .int p2)]) rfl ?_
  intro p e s m below meth c ls A hx hb hr hml hown hts hlocks hK hP hD hS hA hN hl
  have hown : s.vm.findClass RX5 = some m.cls := hown
  have hbg : ∀ w ∈ wsL_law, w ∈ aX5_aboutClient := fun w h => List.mem_cons_of_mem _ h
  have wd0 : (Cond.fieldLink RX5 12 "ClientMoneyBook$State" "accounts" "LClientMoneyBook$Accounts;").before ([.ref a0, .int p1, .int p2] : List Value).toArray s = true := hts _ (List.mem_cons_of_mem _ wm_1_20)
  have wd1 : (Cond.fieldLink RX5 21 "ClientMoneyBook$State" "holds" "LClientMoneyBook$Rows;").before ([.ref a0, .int p1, .int p2] : List Value).toArray s = true := hts _ (List.mem_cons_of_mem _ wm_2_0)
  have wd2 : (Cond.constantLong RX5 167 (3650000)).before ([.ref a0, .int p1, .int p2] : List Value).toArray s = true := hts _ (List.mem_cons_of_mem _ wm_14_12)
  have wd3 : (Cond.constantLong RX5 169 (1000000000)).before ([.ref a0, .int p1, .int p2] : List Value).toArray s = true := hts _ (List.mem_cons_of_mem _ wm_20_1)
  have wd4 : (Cond.methodLink RX5 171 Lib.MathLoose.min_long.x).before ([.ref a0, .int p1, .int p2] : List Value).toArray s = true := hts _ (List.mem_cons_of_mem _ wm_15_3)
  have wd5 : (Cond.static Lib.MathLoose.min_long.x).before ([.ref a0, .int p1, .int p2] : List Value).toArray s = true := hts _ (List.mem_cons_of_mem _ wm_15_4)
  have wd6 : (Cond.initialized "java/lang/Math").before ([.ref a0, .int p1, .int p2] : List Value).toArray s = true := hts _ (List.mem_cons_of_mem _ wm_7_20)
  have wd7 : (Cond.code Lib.MathLoose.min_long.x Lib.MathLoose.min_long.code 4 (some .long)).before ([.ref a0, .int p1, .int p2] : List Value).toArray s = true := hts _ (List.mem_cons_of_mem _ wm_15_5)
  have wd8 : (Cond.fieldLink RX5 25 "ClientMoneyBook$State" "bills" "LClientMoneyBook$Rows;").before ([.ref a0, .int p1, .int p2] : List Value).toArray s = true := hts _ (List.mem_cons_of_mem _ wm_2_1)
  have iX5 : ∀ w ∈ u_ws RX5 TX5 13, w ∈ aX5_aboutClient := fun w h => List.mem_cons_of_mem _ (inlX5 w h)
  unfold fX5_aboutClient at hf
  refine lv_aload_n hx hb dX5_aboutClient_0 rfl (lv_at hl 0 rfl) ?_
  refine x_get hx hb (C := RX5) (T := TX5) (N := 13) (ci := 5) hts iX5 hown hK hP 0 rfl rfl 0 (by decide) wd0 rfl (.ref a1) rfl dX5_aboutClient_1 ?_
  refine lv_iload_n hx hb dX5_aboutClient_4 rfl (lv_at hl 1 rfl) ?_
  obtain ⟨r_1, h_2, hf⟩ := bd1_el hf
  refine x_callVi (As := [.int p1]) (rest := []) ⟨hx, hb, hml, hown, hts⟩ (mX0_numberAt l D cy a1 a2 a3 a4 a5 Asz Anu Aba Amo Aco p1 r_1 h_2) (cwV 1 hts (gcV_X0_numberAt hbg wm_11_1) rfl rfl rfl kdX0_numberAt ⟨Nat.le_of_ble_eq_true rfl, Nat.le_of_ble_eq_true rfl⟩) (w1 := [(a0, .inr (5, [.ref a1, .ref a6, .ref a8, .ref a10, .int day, .int lim, .int low, .int hig, .int thr, .long off, .long cre, .long rcp, .long pay]))]) (w2 := wX4 cy a6 a7 Hsz Hla Hce ++ (wX4 cy a8 a9 Bsz Bla Bce ++ (wX6 cy a10 a11 Tma Tlc Ttc))) (w' := wX5 cy a0 a1 a2 a3 a4 a5 a6 a7 a8 a9 a10 a11 Asz Anu Aba Amo Aco Hsz Hla Hce Bsz Bla Bce Tma Tlc Ttc day lim low hig thr off cre rcp pay) rfl rfl hP hK hD hN hS hA (q0 := 0) rfl rfl rfl rfl hl rfl (Nat.le_of_ble_eq_true rfl) dX5_aboutClient_5 ⟨Nat.zero_le _, Nat.zero_le _⟩ (fun H locs hP hD hS => ?_)
  refine lv_istore_n (lv' := [(3, .int r_1), (0, .ref a0), (1, .int p1), (2, .int p2)]) hx hb dX5_aboutClient_8 rfl hl (by decide) rfl (fun ls hl => ?_)
  refine lv_iload_n hx hb dX5_aboutClient_9 rfl (lv_at hl 3 rfl) ?_
  by_cases s_3 : p2 = 0
  · have hf := x_t s_3 hf
    have s_3i : p2.toInt = 0 := by rw [s_3]; rfl
    refine lv_tableIn (tgt := 56) (off := 46) hx hb dX5_aboutClient_10 (by rw [s_3i]; decide) (by rw [s_3i]; decide) (by rw [s_3i]; rfl) (by decide) ?_
    refine lv_aload_n hx hb dX5_aboutClient_56 rfl (lv_at hl 1 rfl) ?_
    refine x_get hx hb (C := RX5) (T := TX5) (N := 13) (ci := 5) hts iX5 hown hK hP 0 rfl rfl 0 (by decide) wd0 rfl (.ref a1) rfl dX5_aboutClient_57 ?_
    refine lv_iload_n hx hb dX5_aboutClient_60 rfl (lv_at hl 2 rfl) ?_
    obtain ⟨r_4, h_5, hf⟩ := bd1_el hf
    refine x_callVi (As := [.int p1]) (rest := []) ⟨hx, hb, hml, hown, hts⟩ (mX0_balanceAt l D cy a1 a2 a3 a4 a5 Asz Anu Aba Amo Aco p1 r_4 h_5) (cwV 1 hts (gcV_X0_balanceAt hbg wm_8_13) rfl rfl rfl kdX0_balanceAt ⟨Nat.le_of_ble_eq_true rfl, Nat.le_of_ble_eq_true rfl⟩) (w1 := [(a0, .inr (5, [.ref a1, .ref a6, .ref a8, .ref a10, .int day, .int lim, .int low, .int hig, .int thr, .long off, .long cre, .long rcp, .long pay]))]) (w2 := wX4 cy a6 a7 Hsz Hla Hce ++ (wX4 cy a8 a9 Bsz Bla Bce ++ (wX6 cy a10 a11 Tma Tlc Ttc))) (w' := wX5 cy a0 a1 a2 a3 a4 a5 a6 a7 a8 a9 a10 a11 Asz Anu Aba Amo Aco Hsz Hla Hce Bsz Bla Bce Tma Tlc Ttc day lim low hig thr off cre rcp pay) rfl rfl hP hK hD hN hS hA (q0 := 0) rfl rfl rfl rfl hl rfl (Nat.le_of_ble_eq_true rfl) dX5_aboutClient_61 ⟨Nat.zero_le _, Nat.zero_le _⟩ (fun H locs hP hD hS => ?_)
    have hf := Option.some.inj hf
    cases hf
    exact x_iret hx hb hr hlocks hK hP hD hS dX5_aboutClient_64
  · have hf := x_f s_3 hf
    by_cases s_6 : p2 = 1
    · have hf := x_t s_6 hf
      have s_6i : p2.toInt = 1 := by rw [s_6]; rfl
      refine lv_tableIn (tgt := 65) (off := 55) hx hb dX5_aboutClient_10 (by rw [s_6i]; decide) (by rw [s_6i]; decide) (by rw [s_6i]; rfl) (by decide) ?_
      refine lv_aload_n hx hb dX5_aboutClient_65 rfl (lv_at hl 1 rfl) ?_
      refine x_get hx hb (C := RX5) (T := TX5) (N := 13) (ci := 5) hts iX5 hown hK hP 0 rfl rfl 1 (by decide) wd1 rfl (.ref a6) rfl dX5_aboutClient_66 ?_
      refine lv_iload_n hx hb dX5_aboutClient_69 rfl (lv_at hl 0 rfl) ?_
      refine lv_iconst (v := 2) hx hb dX5_aboutClient_70 (by decide) ?_
      obtain ⟨r_7, h_8, hf⟩ := bd1_el hf
      refine x_callVi (As := [.int r_1, .int 2]) (rest := []) ⟨hx, hb, hml, hown, hts⟩ (mX4_sumOf l D cy a6 a7 Hsz Hla Hce r_1 2 r_7 h_8) (cwV 2 hts (gcV_X4_sumOf hbg wm_11_2) rfl rfl rfl kdX4_sumOf ⟨Nat.le_of_ble_eq_true rfl, Nat.le_of_ble_eq_true rfl⟩) (w1 := [(a0, .inr (5, [.ref a1, .ref a6, .ref a8, .ref a10, .int day, .int lim, .int low, .int hig, .int thr, .long off, .long cre, .long rcp, .long pay]))] ++ (wX0 cy a1 a2 a3 a4 a5 Asz Anu Aba Amo Aco)) (w2 := wX4 cy a8 a9 Bsz Bla Bce ++ (wX6 cy a10 a11 Tma Tlc Ttc)) (w' := wX5 cy a0 a1 a2 a3 a4 a5 a6 a7 a8 a9 a10 a11 Asz Anu Aba Amo Aco Hsz Hla Hce Bsz Bla Bce Tma Tlc Ttc day lim low hig thr off cre rcp pay) rfl rfl hP hK hD hN hS hA (q0 := 0) rfl rfl rfl rfl hl rfl (Nat.le_of_ble_eq_true rfl) dX5_aboutClient_71 ⟨Nat.zero_le _, Nat.zero_le _⟩ (fun H locs hP hD hS => ?_)
      have hf := Option.some.inj hf
      cases hf
      exact x_iret hx hb hr hlocks hK hP hD hS dX5_aboutClient_74
    · have hf := x_f s_6 hf
      by_cases s_9 : p2 = 2
      · have hf := x_t s_9 hf
        have s_9i : p2.toInt = 2 := by rw [s_9]; rfl
        refine lv_tableIn (tgt := 75) (off := 65) hx hb dX5_aboutClient_10 (by rw [s_9i]; decide) (by rw [s_9i]; decide) (by rw [s_9i]; rfl) (by decide) ?_
        refine lv_aload_n hx hb dX5_aboutClient_75 rfl (lv_at hl 1 rfl) ?_
        refine lv_iload_n hx hb dX5_aboutClient_76 rfl (lv_at hl 2 rfl) ?_
        obtain ⟨r_10, h_11, hf⟩ := bd1_el hf
        refine x_callVi (As := [.int p1]) (rest := []) ⟨hx, hb, hml, hown, hts⟩ (mX5_freeAt l D cy a0 a1 a2 a3 a4 a5 a6 a7 a8 a9 a10 a11 Asz Anu Aba Amo Aco Hsz Hla Hce Bsz Bla Bce Tma Tlc Ttc day lim low hig thr off cre rcp pay p1 r_10 h_11) (cwV 1 hts (gcV_X5_freeAt hbg wm_10_21) rfl rfl rfl kdX5_freeAt ⟨Nat.le_of_ble_eq_true rfl, Nat.le_of_ble_eq_true rfl⟩) (w1 := []) (w2 := []) (w' := wX5 cy a0 a1 a2 a3 a4 a5 a6 a7 a8 a9 a10 a11 Asz Anu Aba Amo Aco Hsz Hla Hce Bsz Bla Bce Tma Tlc Ttc day lim low hig thr off cre rcp pay) (List.append_nil _) (List.append_nil _) hP hK hD hN hS hA (q0 := 0) rfl rfl rfl rfl hl rfl (Nat.le_of_ble_eq_true rfl) dX5_aboutClient_77 ⟨Nat.zero_le _, Nat.zero_le _⟩ (fun H locs hP hD hS => ?_)
        have hf := Option.some.inj hf
        cases hf
        exact x_iret hx hb hr hlocks hK hP hD hS dX5_aboutClient_80
      · have hf := x_f s_9 hf
        by_cases s_12 : p2 = 3
        · have hf := x_t s_12 hf
          have s_12i : p2.toInt = 3 := by rw [s_12]; rfl
          refine lv_tableIn (tgt := 81) (off := 71) hx hb dX5_aboutClient_10 (by rw [s_12i]; decide) (by rw [s_12i]; decide) (by rw [s_12i]; rfl) (by decide) ?_
          refine lv_aload_n hx hb dX5_aboutClient_81 rfl (lv_at hl 1 rfl) ?_
          refine x_get hx hb (C := RX5) (T := TX5) (N := 13) (ci := 5) hts iX5 hown hK hP 0 rfl rfl 0 (by decide) wd0 rfl (.ref a1) rfl dX5_aboutClient_82 ?_
          refine lv_iload_n hx hb dX5_aboutClient_85 rfl (lv_at hl 2 rfl) ?_
          obtain ⟨r_13, h_14, hf⟩ := bd1_el hf
          refine x_callVl (As := [.int p1]) (rest := []) ⟨hx, hb, hml, hown, hts⟩ (mX0_countAt l D cy a1 a2 a3 a4 a5 Asz Anu Aba Amo Aco p1 r_13 h_14) (cwV 1 hts (gcV_X0_countAt hbg wm_14_13) rfl rfl rfl kdX0_countAt ⟨Nat.le_of_ble_eq_true rfl, Nat.le_of_ble_eq_true rfl⟩) (w1 := [(a0, .inr (5, [.ref a1, .ref a6, .ref a8, .ref a10, .int day, .int lim, .int low, .int hig, .int thr, .long off, .long cre, .long rcp, .long pay]))]) (w2 := wX4 cy a6 a7 Hsz Hla Hce ++ (wX4 cy a8 a9 Bsz Bla Bce ++ (wX6 cy a10 a11 Tma Tlc Ttc))) (w' := wX5 cy a0 a1 a2 a3 a4 a5 a6 a7 a8 a9 a10 a11 Asz Anu Aba Amo Aco Hsz Hla Hce Bsz Bla Bce Tma Tlc Ttc day lim low hig thr off cre rcp pay) rfl rfl hP hK hD hN hS hA (q0 := 0) rfl rfl rfl rfl hl rfl (Nat.le_of_ble_eq_true rfl) dX5_aboutClient_86 ⟨Nat.zero_le _, Nat.zero_le _⟩ (fun H locs hP hD hS => ?_)
          refine lv_ldc2 hx hb hown wd2 dX5_aboutClient_89 ?_
          refine lv_ldiv hx hb dX5_aboutClient_92 (by decide) ?_
          refine lv_ldc2 hx hb hown wd3 dX5_aboutClient_93 ?_
          obtain ⟨mn_15, emn_15, hf⟩ := lt_el hf
          refine va_mmin_long hx hb (hml.trans hl.1.symm) hown wd4 wd5 wd6 wd7 (Nat.le_of_ble_eq_true rfl) (Nat.le_of_ble_eq_true rfl) (Nat.zero_le _) (Nat.zero_le _) dX5_aboutClient_96 ?_
          refine x_topl emn_15 ?_
          refine lv_l2i (v := mn_15.toInt32) hx hb dX5_aboutClient_99 rfl ?_
          have hf := Option.some.inj hf
          cases hf
          exact x_iret hx hb hr hlocks hK hP hD hS dX5_aboutClient_100
        · have hf := x_f s_12 hf
          by_cases s_16 : p2 = 4
          · have hf := x_t s_16 hf
            have s_16i : p2.toInt = 4 := by rw [s_16]; rfl
            refine lv_tableIn (tgt := 101) (off := 91) hx hb dX5_aboutClient_10 (by rw [s_16i]; decide) (by rw [s_16i]; decide) (by rw [s_16i]; rfl) (by decide) ?_
            refine lv_aload_n hx hb dX5_aboutClient_101 rfl (lv_at hl 1 rfl) ?_
            refine x_get hx hb (C := RX5) (T := TX5) (N := 13) (ci := 5) hts iX5 hown hK hP 0 rfl rfl 2 (by decide) wd8 rfl (.ref a8) rfl dX5_aboutClient_102 ?_
            refine lv_iload_n hx hb dX5_aboutClient_105 rfl (lv_at hl 0 rfl) ?_
            refine lv_iconst (v := 2) hx hb dX5_aboutClient_106 (by decide) ?_
            obtain ⟨r_17, h_18, hf⟩ := bd1_el hf
            refine x_callVi (As := [.int r_1, .int 2]) (rest := []) ⟨hx, hb, hml, hown, hts⟩ (mX4_sumOf l D cy a8 a9 Bsz Bla Bce r_1 2 r_17 h_18) (cwV 2 hts (gcV_X4_sumOf hbg wm_11_2) rfl rfl rfl kdX4_sumOf ⟨Nat.le_of_ble_eq_true rfl, Nat.le_of_ble_eq_true rfl⟩) (w1 := [(a0, .inr (5, [.ref a1, .ref a6, .ref a8, .ref a10, .int day, .int lim, .int low, .int hig, .int thr, .long off, .long cre, .long rcp, .long pay]))] ++ (wX0 cy a1 a2 a3 a4 a5 Asz Anu Aba Amo Aco ++ (wX4 cy a6 a7 Hsz Hla Hce))) (w2 := wX6 cy a10 a11 Tma Tlc Ttc) (w' := wX5 cy a0 a1 a2 a3 a4 a5 a6 a7 a8 a9 a10 a11 Asz Anu Aba Amo Aco Hsz Hla Hce Bsz Bla Bce Tma Tlc Ttc day lim low hig thr off cre rcp pay) rfl rfl hP hK hD hN hS hA (q0 := 0) rfl rfl rfl rfl hl rfl (Nat.le_of_ble_eq_true rfl) dX5_aboutClient_107 ⟨Nat.zero_le _, Nat.zero_le _⟩ (fun H locs hP hD hS => ?_)
            have hf := Option.some.inj hf
            cases hf
            exact x_iret hx hb hr hlocks hK hP hD hS dX5_aboutClient_110
          · have hf := x_f s_16 hf
            by_cases s_19 : p2 = 5
            · have hf := x_t s_19 hf
              have s_19i : p2.toInt = 5 := by rw [s_19]; rfl
              refine lv_tableIn (tgt := 111) (off := 101) hx hb dX5_aboutClient_10 (by rw [s_19i]; decide) (by rw [s_19i]; decide) (by rw [s_19i]; rfl) (by decide) ?_
              refine lv_aload_n hx hb dX5_aboutClient_111 rfl (lv_at hl 1 rfl) ?_
              refine x_get hx hb (C := RX5) (T := TX5) (N := 13) (ci := 5) hts iX5 hown hK hP 0 rfl rfl 0 (by decide) wd0 rfl (.ref a1) rfl dX5_aboutClient_112 ?_
              refine lv_iload_n hx hb dX5_aboutClient_115 rfl (lv_at hl 2 rfl) ?_
              obtain ⟨r_20, h_21, hf⟩ := bd1_el hf
              refine x_callVi (As := [.int p1]) (rest := []) ⟨hx, hb, hml, hown, hts⟩ (mX0_movedAt l D cy a1 a2 a3 a4 a5 Asz Anu Aba Amo Aco p1 r_20 h_21) (cwV 1 hts (gcV_X0_movedAt hbg wm_20_2) rfl rfl rfl kdX0_movedAt ⟨Nat.le_of_ble_eq_true rfl, Nat.le_of_ble_eq_true rfl⟩) (w1 := [(a0, .inr (5, [.ref a1, .ref a6, .ref a8, .ref a10, .int day, .int lim, .int low, .int hig, .int thr, .long off, .long cre, .long rcp, .long pay]))]) (w2 := wX4 cy a6 a7 Hsz Hla Hce ++ (wX4 cy a8 a9 Bsz Bla Bce ++ (wX6 cy a10 a11 Tma Tlc Ttc))) (w' := wX5 cy a0 a1 a2 a3 a4 a5 a6 a7 a8 a9 a10 a11 Asz Anu Aba Amo Aco Hsz Hla Hce Bsz Bla Bce Tma Tlc Ttc day lim low hig thr off cre rcp pay) rfl rfl hP hK hD hN hS hA (q0 := 0) rfl rfl rfl rfl hl rfl (Nat.le_of_ble_eq_true rfl) dX5_aboutClient_116 ⟨Nat.zero_le _, Nat.zero_le _⟩ (fun H locs hP hD hS => ?_)
              have hf := Option.some.inj hf
              cases hf
              exact x_iret hx hb hr hlocks hK hP hD hS dX5_aboutClient_119
            · have hf := x_f s_19 hf
              by_cases s_22 : p2 = 6
              · have hf := x_t s_22 hf
                have s_22i : p2.toInt = 6 := by rw [s_22]; rfl
                refine lv_tableIn (tgt := 120) (off := 110) hx hb dX5_aboutClient_10 (by rw [s_22i]; decide) (by rw [s_22i]; decide) (by rw [s_22i]; rfl) (by decide) ?_
                refine lv_aload_n hx hb dX5_aboutClient_120 rfl (lv_at hl 1 rfl) ?_
                refine x_get hx hb (C := RX5) (T := TX5) (N := 13) (ci := 5) hts iX5 hown hK hP 0 rfl rfl 1 (by decide) wd1 rfl (.ref a6) rfl dX5_aboutClient_121 ?_
                refine lv_iload_n hx hb dX5_aboutClient_124 rfl (lv_at hl 0 rfl) ?_
                obtain ⟨r_23, h_24, hf⟩ := bd1_el hf
                refine x_callVi (As := [.int r_1]) (rest := []) ⟨hx, hb, hml, hown, hts⟩ (mX4_countOf l D cy a6 a7 Hsz Hla Hce r_1 r_23 h_24) (cwV 1 hts (gcV_X4_countOf hbg wm_19_6) rfl rfl rfl kdX4_countOf ⟨Nat.le_of_ble_eq_true rfl, Nat.le_of_ble_eq_true rfl⟩) (w1 := [(a0, .inr (5, [.ref a1, .ref a6, .ref a8, .ref a10, .int day, .int lim, .int low, .int hig, .int thr, .long off, .long cre, .long rcp, .long pay]))] ++ (wX0 cy a1 a2 a3 a4 a5 Asz Anu Aba Amo Aco)) (w2 := wX4 cy a8 a9 Bsz Bla Bce ++ (wX6 cy a10 a11 Tma Tlc Ttc)) (w' := wX5 cy a0 a1 a2 a3 a4 a5 a6 a7 a8 a9 a10 a11 Asz Anu Aba Amo Aco Hsz Hla Hce Bsz Bla Bce Tma Tlc Ttc day lim low hig thr off cre rcp pay) rfl rfl hP hK hD hN hS hA (q0 := 0) rfl rfl rfl rfl hl rfl (Nat.le_of_ble_eq_true rfl) dX5_aboutClient_125 ⟨Nat.zero_le _, Nat.zero_le _⟩ (fun H locs hP hD hS => ?_)
                have hf := Option.some.inj hf
                cases hf
                exact x_iret hx hb hr hlocks hK hP hD hS dX5_aboutClient_128
              · have hf := x_f s_22 hf
                by_cases s_25 : p2 = 7
                · have hf := x_t s_25 hf
                  have s_25i : p2.toInt = 7 := by rw [s_25]; rfl
                  refine lv_tableIn (tgt := 129) (off := 119) hx hb dX5_aboutClient_10 (by rw [s_25i]; decide) (by rw [s_25i]; decide) (by rw [s_25i]; rfl) (by decide) ?_
                  refine lv_aload_n hx hb dX5_aboutClient_129 rfl (lv_at hl 1 rfl) ?_
                  refine x_get hx hb (C := RX5) (T := TX5) (N := 13) (ci := 5) hts iX5 hown hK hP 0 rfl rfl 2 (by decide) wd8 rfl (.ref a8) rfl dX5_aboutClient_130 ?_
                  refine lv_iload_n hx hb dX5_aboutClient_133 rfl (lv_at hl 0 rfl) ?_
                  obtain ⟨r_26, h_27, hf⟩ := bd1_el hf
                  refine x_callVi (As := [.int r_1]) (rest := []) ⟨hx, hb, hml, hown, hts⟩ (mX4_countOf l D cy a8 a9 Bsz Bla Bce r_1 r_26 h_27) (cwV 1 hts (gcV_X4_countOf hbg wm_19_6) rfl rfl rfl kdX4_countOf ⟨Nat.le_of_ble_eq_true rfl, Nat.le_of_ble_eq_true rfl⟩) (w1 := [(a0, .inr (5, [.ref a1, .ref a6, .ref a8, .ref a10, .int day, .int lim, .int low, .int hig, .int thr, .long off, .long cre, .long rcp, .long pay]))] ++ (wX0 cy a1 a2 a3 a4 a5 Asz Anu Aba Amo Aco ++ (wX4 cy a6 a7 Hsz Hla Hce))) (w2 := wX6 cy a10 a11 Tma Tlc Ttc) (w' := wX5 cy a0 a1 a2 a3 a4 a5 a6 a7 a8 a9 a10 a11 Asz Anu Aba Amo Aco Hsz Hla Hce Bsz Bla Bce Tma Tlc Ttc day lim low hig thr off cre rcp pay) rfl rfl hP hK hD hN hS hA (q0 := 0) rfl rfl rfl rfl hl rfl (Nat.le_of_ble_eq_true rfl) dX5_aboutClient_134 ⟨Nat.zero_le _, Nat.zero_le _⟩ (fun H locs hP hD hS => ?_)
                  have hf := Option.some.inj hf
                  cases hf
                  exact x_iret hx hb hr hlocks hK hP hD hS dX5_aboutClient_137
                · have hf := x_f s_25 hf
                  refine lv_tableOut (tgt := 138) hx hb dX5_aboutClient_10 (x_out0_7 s_3 s_6 s_9 s_12 s_16 s_19 s_22 s_25) (by decide) ?_
                  refine lv_bipush (v := (-2)) hx hb dX5_aboutClient_138 (by decide) ?_
                  have hf := Option.some.inj hf
                  cases hf
                  exact x_iret hx hb hr hlocks hK hP hD hS dX5_aboutClient_140
theorem kdX5_heldOn : yX5_heldOn.cls = RX5 ∧ yX5_heldOn.cls ≠ "java/lang/invoke/MethodHandle" ∧ yX5_heldOn.cls ≠ "java/lang/invoke/VarHandle" ∧ (parseMethodDescriptor yX5_heldOn.desc).map (fun d => d.parameters.length) = some 2 := by decide +kernel
def rmX5_heldOn : Room := { frames := 1, cells := 0, slots := 0, locals := 22 }
set_option maxHeartbeats 4000000 in
set_option maxRecDepth 100000 in
theorem mX5_heldOn (l : Launch) (D : va_G) (cy : Nat → ClassId) (a0 a1 a2 a3 a4 a5 a6 a7 a8 a9 a10 a11 : Nat) (Asz : Int32) (Anu : Nat → Int32) (Aba : Nat → Int32) (Amo : Nat → Int32) (Aco : Nat → Int64) (Hsz : Int32) (Hla : Int32) (Hce : Nat → Int32) (Bsz : Int32) (Bla : Int32) (Bce : Nat → Int32) (Tma : Int32) (Tlc : Int32) (Ttc : Nat → Int32) (day : Int32) (lim : Int32) (low : Int32) (hig : Int32) (thr : Int32) (off : Int64) (cre : Int64) (rcp : Int64) (pay : Int64) (p1 : Int32) (p2 : Int32) (r : Int32) (hf : fX5_heldOn Hsz Hce p1 p2 = some r) : xMi l D cy yX5_heldOn aX5_heldOn rmX5_heldOn ([.ref a0, .int p1, .int p2] : List Value) (wX5 cy a0 a1 a2 a3 a4 a5 a6 a7 a8 a9 a10 a11 Asz Anu Aba Amo Aco Hsz Hla Hce Bsz Bla Bce Tma Tlc Ttc day lim low hig thr off cre rcp pay) (wX5 cy a0 a1 a2 a3 a4 a5 a6 a7 a8 a9 a10 a11 Asz Anu Aba Amo Aco Hsz Hla Hce Bsz Bla Bce Tma Tlc Ttc day lim low hig thr off cre rcp pay) r := by
  intro hz
  refine x_start (Qc := xQi D cy _ r) (cc := cX5_heldOn) (maxL := 5) (ret := (some .int)) (by decide) rfl (Nat.le_of_ble_eq_true rfl) (lv := [(0, .ref a0), (1, .int p1), (2, .int p2)]) rfl ?_
  intro p e s m below meth c ls A hx hb hr hml hown hts hlocks hK hP hD hS hA hN hl
  have hown : s.vm.findClass RX5 = some m.cls := hown
  have hbg : ∀ w ∈ wsL_law, w ∈ aX5_heldOn := fun w h => List.mem_cons_of_mem _ h
  have wd0 : (Cond.fieldLink RX5 21 "ClientMoneyBook$State" "holds" "LClientMoneyBook$Rows;").before ([.ref a0, .int p1, .int p2] : List Value).toArray s = true := hts _ (List.mem_cons_of_mem _ wm_2_0)
  have wd1 : (Cond.fieldLink RX5 111 "ClientMoneyBook$Rows" "size" "I").before ([.ref a0, .int p1, .int p2] : List Value).toArray s = true := hts _ (List.mem_cons_of_mem _ wm_12_2)
  have iX4 : ∀ w ∈ u_ws RX4 TX4 3, w ∈ aX5_heldOn := fun w h => List.mem_cons_of_mem _ (inlX4 w h)
  have iX5 : ∀ w ∈ u_ws RX5 TX5 13, w ∈ aX5_heldOn := fun w h => List.mem_cons_of_mem _ (inlX5 w h)
  unfold fX5_heldOn at hf
  refine lv_iconst (v := 0) hx hb dX5_heldOn_0 (by decide) ?_
  refine lv_istore_n (lv' := [(3, .int 0), (0, .ref a0), (1, .int p1), (2, .int p2)]) hx hb dX5_heldOn_1 rfl hl (by decide) rfl (fun ls hl => ?_)
  refine lv_iconst (v := 0) hx hb dX5_heldOn_2 (by decide) ?_
  refine lv_istore (lv' := [(4, .int 0), (3, .int 0), (0, .ref a0), (1, .int p1), (2, .int p2)]) hx hb dX5_heldOn_3 hl (by decide) rfl (fun ls hl => ?_)
  have hL_5 : ∀ (n : Nat) (z3_12 : Int32) (z4_13 : Int32) (o : Int32) (H : Heap) (locs : List Loc) (ls : Array Slot), fX5_heldOn_L5 Hsz Hce p1 p2 n z3_12 z4_13 = some o → va_P D vwCl (wX5 cy a0 a1 a2 a3 a4 a5 a6 a7 a8 a9 a10 a11 Asz Anu Aba Amo Aco Hsz Hla Hce Bsz Bla Bce Tma Tlc Ttc day lim low hig thr off cre rcp pay) H → va_D A (wX5 cy a0 a1 a2 a3 a4 a5 a6 a7 a8 a9 a10 a11 Asz Anu Aba Amo Aco Hsz Hla Hce Bsz Bla Bce Tma Tlc Ttc day lim low hig thr off cre rcp pay) → va_S A s.heap H locs → lv_has ls 5 [(0, .ref a0), (1, .int p1), (2, .int p2), (3, .int z3_12), (4, .int z4_13)] → True → ((∀ (x3_14 : Int32) , o = x3_14 → ∀ (H : Heap) (locs : List Loc) (ls : Array Slot), va_P D vwCl (wX5 cy a0 a1 a2 a3 a4 a5 a6 a7 a8 a9 a10 a11 Asz Anu Aba Amo Aco Hsz Hla Hce Bsz Bla Bce Tma Tlc Ttc day lim low hig thr off cre rcp pay) H → va_D A (wX5 cy a0 a1 a2 a3 a4 a5 a6 a7 a8 a9 a10 a11 Asz Anu Aba Amo Aco Hsz Hla Hce Bsz Bla Bce Tma Tlc Ttc day lim low hig thr off cre rcp pay) → va_S A s.heap H locs → lv_has ls 5 [(3, .int x3_14)] →  W p l e rmX5_heldOn s m ([.ref a0, .int p1, .int p2] : List Value).toArray below meth c H locs 0 0 (MQ below (xQi D cy (wX5 cy a0 a1 a2 a3 a4 a5 a6 a7 a8 a9 a10 a11 Asz Anu Aba Amo Aco Hsz Hla Hce Bsz Bla Bce Tma Tlc Ttc day lim low hig thr off cre rcp pay) r A) ([.ref a0, .int p1, .int p2] : List Value).toArray s 0 0 A) (F0 m 64 ls []))) → W p l e rmX5_heldOn s m ([.ref a0, .int p1, .int p2] : List Value).toArray below meth c H locs 0 0 (MQ below (xQi D cy (wX5 cy a0 a1 a2 a3 a4 a5 a6 a7 a8 a9 a10 a11 Asz Anu Aba Amo Aco Hsz Hla Hce Bsz Bla Bce Tma Tlc Ttc day lim low hig thr off cre rcp pay) r A) ([.ref a0, .int p1, .int p2] : List Value).toArray s 0 0 A) (F0 m 5 ls []) := by
    intro n
    induction n with
    | zero =>
      intro z3_12 z4_13 o_5 H locs ls hf
      rw [fX5_heldOn_L5] at hf
      cases hf
    | succ n ih =>
      intro z3_12 z4_13 o_5 H locs ls hf hP hD hS hl hr_5 kx_5
      rw [fX5_heldOn_L5] at hf
      refine lv_iload hx hb dX5_heldOn_5 (lv_at hl 4 rfl) ?_
      refine lv_aload_n hx hb dX5_heldOn_7 rfl (lv_at hl 0 rfl) ?_
      refine x_get hx hb (C := RX5) (T := TX5) (N := 13) (ci := 5) hts iX5 hown hK hP 0 rfl rfl 1 (by decide) wd0 rfl (.ref a6) rfl dX5_heldOn_8 ?_
      refine x_get hx hb (C := RX4) (T := TX4) (N := 3) (ci := 4) hts iX4 hown hK hP 6 rfl rfl 0 (by decide) wd1 rfl (.int Hsz) rfl dX5_heldOn_11 ?_
      refine lv_icmp_ge (tgt := 64) hx hb dX5_heldOn_14 (by decide) (fun c_15 => ?_) (fun c_15 => ?_)
      · have hf := x_t c_15 hf
        exact kx_5 z3_12 (Option.some.inj hf).symm _ _ _ hP hD hS (lv_sub hl [3] rfl)
      · have hf := x_f c_15 hf
        refine lv_aload_n hx hb dX5_heldOn_17 rfl (lv_at hl 0 rfl) ?_
        refine x_get hx hb (C := RX5) (T := TX5) (N := 13) (ci := 5) hts iX5 hown hK hP 0 rfl rfl 1 (by decide) wd0 rfl (.ref a6) rfl dX5_heldOn_18 ?_
        refine lv_iload hx hb dX5_heldOn_21 (lv_at hl 4 rfl) ?_
        refine lv_iconst (v := 1) hx hb dX5_heldOn_23 (by decide) ?_
        obtain ⟨r_16, h_17, hf⟩ := bd1_el hf
        refine x_callVi (As := [.int z4_13, .int 1]) (rest := []) ⟨hx, hb, hml, hown, hts⟩ (mX4_get l D cy a6 a7 Hsz Hla Hce z4_13 1 r_16 h_17) (cwV 2 hts (gcV_X4_get hbg wm_12_23) rfl rfl rfl kdX4_get ⟨Nat.le_of_ble_eq_true rfl, Nat.le_of_ble_eq_true rfl⟩) (w1 := [(a0, .inr (5, [.ref a1, .ref a6, .ref a8, .ref a10, .int day, .int lim, .int low, .int hig, .int thr, .long off, .long cre, .long rcp, .long pay]))] ++ (wX0 cy a1 a2 a3 a4 a5 Asz Anu Aba Amo Aco)) (w2 := wX4 cy a8 a9 Bsz Bla Bce ++ (wX6 cy a10 a11 Tma Tlc Ttc)) (w' := wX5 cy a0 a1 a2 a3 a4 a5 a6 a7 a8 a9 a10 a11 Asz Anu Aba Amo Aco Hsz Hla Hce Bsz Bla Bce Tma Tlc Ttc day lim low hig thr off cre rcp pay) rfl rfl hP hK hD hN hS hA (q0 := 0) rfl rfl rfl rfl hl rfl (Nat.le_of_ble_eq_true rfl) dX5_heldOn_24 ⟨Nat.zero_le _, Nat.zero_le _⟩ (fun H locs hP hD hS => ?_)
        refine lv_iload_n hx hb dX5_heldOn_27 rfl (lv_at hl 1 rfl) ?_
        refine lv_icmp_ne (tgt := 58) hx hb dX5_heldOn_28 (by decide) (fun c_18 => ?_) (fun c_18 => ?_)
        · have hf := x_f c_18 hf
          refine lv_iinc (v := (z4_13 + 1)) (lv' := [(4, .int (z4_13 + 1)), (0, .ref a0), (1, .int p1), (2, .int p2), (3, .int z3_12)]) hx hb dX5_heldOn_58 hl (k := 4) rfl rfl (by decide) rfl (fun ls hl => ?_)
          refine lv_goto (tgt := 5) hx hb dX5_heldOn_61 (by decide) ?_
          exact ih z3_12 (z4_13 + 1) _ _ _ _ hf hP hD hS (lv_sub hl [1, 2, 3, 4, 0] rfl) hr_5 kx_5
        · have hf := x_t c_18 hf
          refine lv_aload_n hx hb dX5_heldOn_31 rfl (lv_at hl 0 rfl) ?_
          refine x_get hx hb (C := RX5) (T := TX5) (N := 13) (ci := 5) hts iX5 hown hK hP 0 rfl rfl 1 (by decide) wd0 rfl (.ref a6) rfl dX5_heldOn_32 ?_
          refine lv_iload hx hb dX5_heldOn_35 (lv_at hl 4 rfl) ?_
          refine lv_iconst (v := 3) hx hb dX5_heldOn_37 (by decide) ?_
          obtain ⟨r_19, h_20, hf⟩ := bd1_el hf
          refine x_callVi (As := [.int z4_13, .int 3]) (rest := []) ⟨hx, hb, hml, hown, hts⟩ (mX4_get l D cy a6 a7 Hsz Hla Hce z4_13 3 r_19 h_20) (cwV 2 hts (gcV_X4_get hbg wm_12_23) rfl rfl rfl kdX4_get ⟨Nat.le_of_ble_eq_true rfl, Nat.le_of_ble_eq_true rfl⟩) (w1 := [(a0, .inr (5, [.ref a1, .ref a6, .ref a8, .ref a10, .int day, .int lim, .int low, .int hig, .int thr, .long off, .long cre, .long rcp, .long pay]))] ++ (wX0 cy a1 a2 a3 a4 a5 Asz Anu Aba Amo Aco)) (w2 := wX4 cy a8 a9 Bsz Bla Bce ++ (wX6 cy a10 a11 Tma Tlc Ttc)) (w' := wX5 cy a0 a1 a2 a3 a4 a5 a6 a7 a8 a9 a10 a11 Asz Anu Aba Amo Aco Hsz Hla Hce Bsz Bla Bce Tma Tlc Ttc day lim low hig thr off cre rcp pay) rfl rfl hP hK hD hN hS hA (q0 := 0) rfl rfl rfl rfl hl rfl (Nat.le_of_ble_eq_true rfl) dX5_heldOn_38 ⟨Nat.zero_le _, Nat.zero_le _⟩ (fun H locs hP hD hS => ?_)
          refine lv_iload_n hx hb dX5_heldOn_41 rfl (lv_at hl 2 rfl) ?_
          refine lv_icmp_lt (tgt := 58) hx hb dX5_heldOn_42 (by decide) (fun c_21 => ?_) (fun c_21 => ?_)
          · have hf := x_t c_21 hf
            refine lv_iinc (v := (z4_13 + 1)) (lv' := [(4, .int (z4_13 + 1)), (0, .ref a0), (1, .int p1), (2, .int p2), (3, .int z3_12)]) hx hb dX5_heldOn_58 hl (k := 4) rfl rfl (by decide) rfl (fun ls hl => ?_)
            refine lv_goto (tgt := 5) hx hb dX5_heldOn_61 (by decide) ?_
            exact ih z3_12 (z4_13 + 1) _ _ _ _ hf hP hD hS (lv_sub hl [1, 2, 3, 4, 0] rfl) hr_5 kx_5
          · have hf := x_f c_21 hf
            refine lv_iload_n hx hb dX5_heldOn_45 rfl (lv_at hl 3 rfl) ?_
            refine lv_aload_n hx hb dX5_heldOn_46 rfl (lv_at hl 0 rfl) ?_
            refine x_get hx hb (C := RX5) (T := TX5) (N := 13) (ci := 5) hts iX5 hown hK hP 0 rfl rfl 1 (by decide) wd0 rfl (.ref a6) rfl dX5_heldOn_47 ?_
            refine lv_iload hx hb dX5_heldOn_50 (lv_at hl 4 rfl) ?_
            refine lv_iconst (v := 2) hx hb dX5_heldOn_52 (by decide) ?_
            obtain ⟨r_22, h_23, hf⟩ := bd1_el hf
            refine x_callVi (As := [.int z4_13, .int 2]) (rest := [.int z3_12]) ⟨hx, hb, hml, hown, hts⟩ (mX4_get l D cy a6 a7 Hsz Hla Hce z4_13 2 r_22 h_23) (cwV 2 hts (gcV_X4_get hbg wm_12_23) rfl rfl rfl kdX4_get ⟨Nat.le_of_ble_eq_true rfl, Nat.le_of_ble_eq_true rfl⟩) (w1 := [(a0, .inr (5, [.ref a1, .ref a6, .ref a8, .ref a10, .int day, .int lim, .int low, .int hig, .int thr, .long off, .long cre, .long rcp, .long pay]))] ++ (wX0 cy a1 a2 a3 a4 a5 Asz Anu Aba Amo Aco)) (w2 := wX4 cy a8 a9 Bsz Bla Bce ++ (wX6 cy a10 a11 Tma Tlc Ttc)) (w' := wX5 cy a0 a1 a2 a3 a4 a5 a6 a7 a8 a9 a10 a11 Asz Anu Aba Amo Aco Hsz Hla Hce Bsz Bla Bce Tma Tlc Ttc day lim low hig thr off cre rcp pay) rfl rfl hP hK hD hN hS hA (q0 := 0) rfl rfl rfl rfl hl rfl (Nat.le_of_ble_eq_true rfl) dX5_heldOn_53 ⟨Nat.zero_le _, Nat.zero_le _⟩ (fun H locs hP hD hS => ?_)
            refine lv_iadd hx hb dX5_heldOn_56 ?_
            obtain ⟨x3_24, ex3_24, hf⟩ := lt_el hf
            refine x_topi ex3_24 ?_
            refine lv_istore_n (lv' := [(3, .int x3_24), (0, .ref a0), (1, .int p1), (2, .int p2), (4, .int z4_13)]) hx hb dX5_heldOn_57 rfl hl (by decide) rfl (fun ls hl => ?_)
            refine lv_iinc (v := (z4_13 + 1)) (lv' := [(4, .int (z4_13 + 1)), (3, .int x3_24), (0, .ref a0), (1, .int p1), (2, .int p2)]) hx hb dX5_heldOn_58 hl (k := 4) rfl rfl (by decide) rfl (fun ls hl => ?_)
            refine lv_goto (tgt := 5) hx hb dX5_heldOn_61 (by decide) ?_
            exact ih x3_24 (z4_13 + 1) _ _ _ _ hf hP hD hS (lv_sub hl [2, 3, 4, 1, 0] rfl) hr_5 kx_5
  obtain ⟨x3_11, h1_5, hf⟩ := bd1_el hf
  refine hL_5 2147483648 0 0 _ _ _ _ h1_5 hP hD hS (lv_sub hl [2, 3, 4, 1, 0] rfl) trivial (fun x3_119 ho H locs ls hP hD hS hl => ?_)
  cases ho
  refine lv_iload_n hx hb dX5_heldOn_64 rfl (lv_at hl 0 rfl) ?_
  have hf := Option.some.inj hf
  cases hf
  exact x_iret hx hb hr hlocks hK hP hD hS dX5_heldOn_65
theorem kdX5_firstDayWithFree : yX5_firstDayWithFree.cls = RX5 ∧ yX5_firstDayWithFree.cls ≠ "java/lang/invoke/MethodHandle" ∧ yX5_firstDayWithFree.cls ≠ "java/lang/invoke/VarHandle" ∧ (parseMethodDescriptor yX5_firstDayWithFree.desc).map (fun d => d.parameters.length) = some 2 := by decide +kernel
def rmX5_firstDayWithFree : Room := { frames := 2, cells := 0, slots := 0, locals := 48 }
set_option maxHeartbeats 4000000 in
set_option maxRecDepth 100000 in
theorem mX5_firstDayWithFree (l : Launch) (D : va_G) (cy : Nat → ClassId) (a0 a1 a2 a3 a4 a5 a6 a7 a8 a9 a10 a11 : Nat) (Asz : Int32) (Anu : Nat → Int32) (Aba : Nat → Int32) (Amo : Nat → Int32) (Aco : Nat → Int64) (Hsz : Int32) (Hla : Int32) (Hce : Nat → Int32) (Bsz : Int32) (Bla : Int32) (Bce : Nat → Int32) (Tma : Int32) (Tlc : Int32) (Ttc : Nat → Int32) (day : Int32) (lim : Int32) (low : Int32) (hig : Int32) (thr : Int32) (off : Int64) (cre : Int64) (rcp : Int64) (pay : Int64) (p1 : Int32) (p2 : Int32) (r : Int32) (hf : fX5_firstDayWithFree Asz Anu Aba Aco Hsz Hce day lim low hig thr p1 p2 = some r) : xMi l D cy yX5_firstDayWithFree aX5_firstDayWithFree rmX5_firstDayWithFree ([.ref a0, .int p1, .int p2] : List Value) (wX5 cy a0 a1 a2 a3 a4 a5 a6 a7 a8 a9 a10 a11 Asz Anu Aba Amo Aco Hsz Hla Hce Bsz Bla Bce Tma Tlc Ttc day lim low hig thr off cre rcp pay) (wX5 cy a0 a1 a2 a3 a4 a5 a6 a7 a8 a9 a10 a11 Asz Anu Aba Amo Aco Hsz Hla Hce Bsz Bla Bce Tma Tlc Ttc day lim low hig thr off cre rcp pay) r := by
  intro hz
  refine x_start (Qc := xQi D cy _ r) (cc := cX5_firstDayWithFree) (maxL := 10) (ret := (some .int)) (by decide) rfl (Nat.le_of_ble_eq_true rfl) (lv := [(0, .ref a0), (1, .int p1), (2, .int p2)]) rfl ?_
  intro p e s m below meth c ls A hx hb hr hml hown hts hlocks hK hP hD hS hA hN hl
  have hown : s.vm.findClass RX5 = some m.cls := hown
  have hbg : ∀ w ∈ wsL_law, w ∈ aX5_firstDayWithFree := fun w h => List.mem_cons_of_mem _ h
  have wd0 : (Cond.fieldLink RX5 12 "ClientMoneyBook$State" "accounts" "LClientMoneyBook$Accounts;").before ([.ref a0, .int p1, .int p2] : List Value).toArray s = true := hts _ (List.mem_cons_of_mem _ wm_1_20)
  have wd1 : (Cond.fieldLink RX5 35 "ClientMoneyBook$State" "day" "I").before ([.ref a0, .int p1, .int p2] : List Value).toArray s = true := hts _ (List.mem_cons_of_mem _ wm_2_6)
  have wd2 : (Cond.constantLong RX5 167 (3650000)).before ([.ref a0, .int p1, .int p2] : List Value).toArray s = true := hts _ (List.mem_cons_of_mem _ wm_14_12)
  have iX5 : ∀ w ∈ u_ws RX5 TX5 13, w ∈ aX5_firstDayWithFree := fun w h => List.mem_cons_of_mem _ (inlX5 w h)
  unfold fX5_firstDayWithFree at hf
  refine lv_aload_n hx hb dX5_firstDayWithFree_0 rfl (lv_at hl 0 rfl) ?_
  refine x_get hx hb (C := RX5) (T := TX5) (N := 13) (ci := 5) hts iX5 hown hK hP 0 rfl rfl 0 (by decide) wd0 rfl (.ref a1) rfl dX5_firstDayWithFree_1 ?_
  refine lv_iload_n hx hb dX5_firstDayWithFree_4 rfl (lv_at hl 1 rfl) ?_
  obtain ⟨r_1, h_2, hf⟩ := bd1_el hf
  refine x_callVi (As := [.int p1]) (rest := []) ⟨hx, hb, hml, hown, hts⟩ (mX0_numberAt l D cy a1 a2 a3 a4 a5 Asz Anu Aba Amo Aco p1 r_1 h_2) (cwV 1 hts (gcV_X0_numberAt hbg wm_11_1) rfl rfl rfl kdX0_numberAt ⟨Nat.le_of_ble_eq_true rfl, Nat.le_of_ble_eq_true rfl⟩) (w1 := [(a0, .inr (5, [.ref a1, .ref a6, .ref a8, .ref a10, .int day, .int lim, .int low, .int hig, .int thr, .long off, .long cre, .long rcp, .long pay]))]) (w2 := wX4 cy a6 a7 Hsz Hla Hce ++ (wX4 cy a8 a9 Bsz Bla Bce ++ (wX6 cy a10 a11 Tma Tlc Ttc))) (w' := wX5 cy a0 a1 a2 a3 a4 a5 a6 a7 a8 a9 a10 a11 Asz Anu Aba Amo Aco Hsz Hla Hce Bsz Bla Bce Tma Tlc Ttc day lim low hig thr off cre rcp pay) rfl rfl hP hK hD hN hS hA (q0 := 0) rfl rfl rfl rfl hl rfl (Nat.le_of_ble_eq_true rfl) dX5_firstDayWithFree_5 ⟨Nat.zero_le _, Nat.zero_le _⟩ (fun H locs hP hD hS => ?_)
  refine lv_istore_n (lv' := [(3, .int r_1), (0, .ref a0), (1, .int p1), (2, .int p2)]) hx hb dX5_firstDayWithFree_8 rfl hl (by decide) rfl (fun ls hl => ?_)
  refine lv_aload_n hx hb dX5_firstDayWithFree_9 rfl (lv_at hl 1 rfl) ?_
  refine x_get hx hb (C := RX5) (T := TX5) (N := 13) (ci := 5) hts iX5 hown hK hP 0 rfl rfl 0 (by decide) wd0 rfl (.ref a1) rfl dX5_firstDayWithFree_10 ?_
  refine lv_iload_n hx hb dX5_firstDayWithFree_13 rfl (lv_at hl 2 rfl) ?_
  obtain ⟨r_3, h_4, hf⟩ := bd1_el hf
  refine x_callVi (As := [.int p1]) (rest := []) ⟨hx, hb, hml, hown, hts⟩ (mX0_balanceAt l D cy a1 a2 a3 a4 a5 Asz Anu Aba Amo Aco p1 r_3 h_4) (cwV 1 hts (gcV_X0_balanceAt hbg wm_8_13) rfl rfl rfl kdX0_balanceAt ⟨Nat.le_of_ble_eq_true rfl, Nat.le_of_ble_eq_true rfl⟩) (w1 := [(a0, .inr (5, [.ref a1, .ref a6, .ref a8, .ref a10, .int day, .int lim, .int low, .int hig, .int thr, .long off, .long cre, .long rcp, .long pay]))]) (w2 := wX4 cy a6 a7 Hsz Hla Hce ++ (wX4 cy a8 a9 Bsz Bla Bce ++ (wX6 cy a10 a11 Tma Tlc Ttc))) (w' := wX5 cy a0 a1 a2 a3 a4 a5 a6 a7 a8 a9 a10 a11 Asz Anu Aba Amo Aco Hsz Hla Hce Bsz Bla Bce Tma Tlc Ttc day lim low hig thr off cre rcp pay) rfl rfl hP hK hD hN hS hA (q0 := 0) rfl rfl rfl rfl hl rfl (Nat.le_of_ble_eq_true rfl) dX5_firstDayWithFree_14 ⟨Nat.zero_le _, Nat.zero_le _⟩ (fun H locs hP hD hS => ?_)
  refine lv_istore (lv' := [(4, .int r_3), (3, .int r_1), (0, .ref a0), (1, .int p1), (2, .int p2)]) hx hb dX5_firstDayWithFree_17 hl (by decide) rfl (fun ls hl => ?_)
  refine lv_aload_n hx hb dX5_firstDayWithFree_19 rfl (lv_at hl 2 rfl) ?_
  refine x_get hx hb (C := RX5) (T := TX5) (N := 13) (ci := 5) hts iX5 hown hK hP 0 rfl rfl 0 (by decide) wd0 rfl (.ref a1) rfl dX5_firstDayWithFree_20 ?_
  refine lv_iload_n hx hb dX5_firstDayWithFree_23 rfl (lv_at hl 3 rfl) ?_
  obtain ⟨r_5, h_6, hf⟩ := bd1_el hf
  refine x_callVl (As := [.int p1]) (rest := []) ⟨hx, hb, hml, hown, hts⟩ (mX0_countAt l D cy a1 a2 a3 a4 a5 Asz Anu Aba Amo Aco p1 r_5 h_6) (cwV 1 hts (gcV_X0_countAt hbg wm_14_13) rfl rfl rfl kdX0_countAt ⟨Nat.le_of_ble_eq_true rfl, Nat.le_of_ble_eq_true rfl⟩) (w1 := [(a0, .inr (5, [.ref a1, .ref a6, .ref a8, .ref a10, .int day, .int lim, .int low, .int hig, .int thr, .long off, .long cre, .long rcp, .long pay]))]) (w2 := wX4 cy a6 a7 Hsz Hla Hce ++ (wX4 cy a8 a9 Bsz Bla Bce ++ (wX6 cy a10 a11 Tma Tlc Ttc))) (w' := wX5 cy a0 a1 a2 a3 a4 a5 a6 a7 a8 a9 a10 a11 Asz Anu Aba Amo Aco Hsz Hla Hce Bsz Bla Bce Tma Tlc Ttc day lim low hig thr off cre rcp pay) rfl rfl hP hK hD hN hS hA (q0 := 0) rfl rfl rfl rfl hl rfl (Nat.le_of_ble_eq_true rfl) dX5_firstDayWithFree_24 ⟨Nat.zero_le _, Nat.zero_le _⟩ (fun H locs hP hD hS => ?_)
  refine lv_lstore (lv' := [(5, .long r_5), (4, .int r_3), (3, .int r_1), (0, .ref a0), (1, .int p1), (2, .int p2)]) hx hb dX5_firstDayWithFree_27 hl (by decide) rfl (fun ls hl => ?_)
  refine lv_iconst (v := 0) hx hb dX5_firstDayWithFree_29 (by decide) ?_
  refine lv_istore (lv' := [(7, .int 0), (5, .long r_5), (4, .int r_3), (3, .int r_1), (0, .ref a0), (1, .int p1), (2, .int p2)]) hx hb dX5_firstDayWithFree_30 hl (by decide) rfl (fun ls hl => ?_)
  have hL_32 : ∀ (n : Nat) (z4_27 : Int32) (z5_28 : Int64) (z7_29 : Int32) (o : (Int32) ⊕ (Unit)) (H : Heap) (locs : List Loc) (ls : Array Slot), fX5_firstDayWithFree_L32 Hsz Hce day lim low hig thr p2 r_1 n z4_27 z5_28 z7_29 = some o → va_P D vwCl (wX5 cy a0 a1 a2 a3 a4 a5 a6 a7 a8 a9 a10 a11 Asz Anu Aba Amo Aco Hsz Hla Hce Bsz Bla Bce Tma Tlc Ttc day lim low hig thr off cre rcp pay) H → va_D A (wX5 cy a0 a1 a2 a3 a4 a5 a6 a7 a8 a9 a10 a11 Asz Anu Aba Amo Aco Hsz Hla Hce Bsz Bla Bce Tma Tlc Ttc day lim low hig thr off cre rcp pay) → va_S A s.heap H locs → lv_has ls 10 [(0, .ref a0), (2, .int p2), (3, .int r_1), (4, .int z4_27), (5, .long z5_28), (7, .int z7_29)] → (∀ r', o = .inl r' → r' = r) → ((o = (.inr ()) → ∀ (H : Heap) (locs : List Loc) (ls : Array Slot), va_P D vwCl (wX5 cy a0 a1 a2 a3 a4 a5 a6 a7 a8 a9 a10 a11 Asz Anu Aba Amo Aco Hsz Hla Hce Bsz Bla Bce Tma Tlc Ttc day lim low hig thr off cre rcp pay) H → va_D A (wX5 cy a0 a1 a2 a3 a4 a5 a6 a7 a8 a9 a10 a11 Asz Anu Aba Amo Aco Hsz Hla Hce Bsz Bla Bce Tma Tlc Ttc day lim low hig thr off cre rcp pay) → va_S A s.heap H locs → lv_has ls 10 [] →  W p l e rmX5_firstDayWithFree s m ([.ref a0, .int p1, .int p2] : List Value).toArray below meth c H locs 0 0 (MQ below (xQi D cy (wX5 cy a0 a1 a2 a3 a4 a5 a6 a7 a8 a9 a10 a11 Asz Anu Aba Amo Aco Hsz Hla Hce Bsz Bla Bce Tma Tlc Ttc day lim low hig thr off cre rcp pay) r A) ([.ref a0, .int p1, .int p2] : List Value).toArray s 0 0 A) (F0 m 125 ls []))) → W p l e rmX5_firstDayWithFree s m ([.ref a0, .int p1, .int p2] : List Value).toArray below meth c H locs 0 0 (MQ below (xQi D cy (wX5 cy a0 a1 a2 a3 a4 a5 a6 a7 a8 a9 a10 a11 Asz Anu Aba Amo Aco Hsz Hla Hce Bsz Bla Bce Tma Tlc Ttc day lim low hig thr off cre rcp pay) r A) ([.ref a0, .int p1, .int p2] : List Value).toArray s 0 0 A) (F0 m 32 ls []) := by
    intro n
    induction n with
    | zero =>
      intro z4_27 z5_28 z7_29 o_32 H locs ls hf
      rw [fX5_firstDayWithFree_L32] at hf
      cases hf
    | succ n ih =>
      intro z4_27 z5_28 z7_29 o_32 H locs ls hf hP hD hS hl hr_32 kx_32
      rw [fX5_firstDayWithFree_L32] at hf
      refine lv_iload hx hb dX5_firstDayWithFree_32 (lv_at hl 5 rfl) ?_
      refine lv_sipush (v := 400) hx hb dX5_firstDayWithFree_34 (by decide) ?_
      refine lv_icmp_gt (tgt := 125) hx hb dX5_firstDayWithFree_37 (by decide) (fun c_30 => ?_) (fun c_30 => ?_)
      · have hf := x_t c_30 hf
        exact kx_32 (Option.some.inj hf).symm _ _ _ hP hD hS (lv_sub hl [] rfl)
      · have hf := x_f c_30 hf
        refine lv_aload_n hx hb dX5_firstDayWithFree_40 rfl (lv_at hl 0 rfl) ?_
        refine x_get hx hb (C := RX5) (T := TX5) (N := 13) (ci := 5) hts iX5 hown hK hP 0 rfl rfl 4 (by decide) wd1 rfl (.int day) rfl dX5_firstDayWithFree_41 ?_
        refine lv_iload hx hb dX5_firstDayWithFree_44 (lv_at hl 5 rfl) ?_
        refine lv_iadd hx hb dX5_firstDayWithFree_46 ?_
        obtain ⟨x8_31, ex8_31, hf⟩ := lt_el hf
        refine x_topi ex8_31 ?_
        refine lv_istore (lv' := [(8, .int x8_31), (0, .ref a0), (2, .int p2), (3, .int r_1), (4, .int z4_27), (5, .long z5_28), (7, .int z7_29)]) hx hb dX5_firstDayWithFree_47 hl (by decide) rfl (fun ls hl => ?_)
        refine lv_iload hx hb dX5_firstDayWithFree_49 (lv_at hl 6 rfl) ?_
        refine lv_if_le (tgt := 102) hx hb dX5_firstDayWithFree_51 (by decide) (fun c_32 => ?_) (fun c_32 => ?_)
        · have hf := x_t c_32 hf
          refine lv_iload hx hb dX5_firstDayWithFree_102 (lv_at hl 4 rfl) ?_
          refine lv_aload_n hx hb dX5_firstDayWithFree_104 rfl (lv_at hl 1 rfl) ?_
          refine lv_iload_n hx hb dX5_firstDayWithFree_105 rfl (lv_at hl 3 rfl) ?_
          refine lv_iload hx hb dX5_firstDayWithFree_106 (lv_at hl 0 rfl) ?_
          obtain ⟨r_33, h_34, hf⟩ := bd1_el hf
          refine x_callVi (As := [.int r_1, .int x8_31]) (rest := [.int z4_27]) ⟨hx, hb, hml, hown, hts⟩ (mX5_heldOn l D cy a0 a1 a2 a3 a4 a5 a6 a7 a8 a9 a10 a11 Asz Anu Aba Amo Aco Hsz Hla Hce Bsz Bla Bce Tma Tlc Ttc day lim low hig thr off cre rcp pay r_1 x8_31 r_33 h_34) (cwV 2 hts (gcV_X5_heldOn hbg wm_15_15) rfl rfl rfl kdX5_heldOn ⟨Nat.le_of_ble_eq_true rfl, Nat.le_of_ble_eq_true rfl⟩) (w1 := []) (w2 := []) (w' := wX5 cy a0 a1 a2 a3 a4 a5 a6 a7 a8 a9 a10 a11 Asz Anu Aba Amo Aco Hsz Hla Hce Bsz Bla Bce Tma Tlc Ttc day lim low hig thr off cre rcp pay) (List.append_nil _) (List.append_nil _) hP hK hD hN hS hA (q0 := 0) rfl rfl rfl rfl hl rfl (Nat.le_of_ble_eq_true rfl) dX5_firstDayWithFree_108 ⟨Nat.zero_le _, Nat.zero_le _⟩ (fun H locs hP hD hS => ?_)
          refine lv_isub hx hb dX5_firstDayWithFree_111 ?_
          refine lv_iload_n hx hb dX5_firstDayWithFree_112 rfl (lv_at hl 2 rfl) ?_
          refine lv_icmp_lt (tgt := 119) hx hb dX5_firstDayWithFree_113 (by decide) (fun c_35 => ?_) (fun c_35 => ?_)
          · have hf := x_t c_35 hf
            refine lv_iinc (v := (z7_29 + 1)) (lv' := [(7, .int (z7_29 + 1)), (8, .int x8_31), (0, .ref a0), (2, .int p2), (3, .int r_1), (4, .int z4_27), (5, .long z5_28)]) hx hb dX5_firstDayWithFree_119 hl (k := 6) rfl rfl (by decide) rfl (fun ls hl => ?_)
            refine lv_goto (tgt := 32) hx hb dX5_firstDayWithFree_122 (by decide) ?_
            exact ih z4_27 z5_28 (z7_29 + 1) _ _ _ _ hf hP hD hS (lv_sub hl [2, 3, 4, 5, 6, 0] rfl) hr_32 kx_32
          · have hf := x_f c_35 hf
            refine lv_iload hx hb dX5_firstDayWithFree_116 (lv_at hl 0 rfl) ?_
            have hf := Option.some.inj hf
            have hf := (hr_32 _ hf.symm)
            cases hf
            exact x_iret hx hb hr hlocks hK hP hD hS dX5_firstDayWithFree_118
        · have hf := x_f c_32 hf
          refine lv_lload hx hb dX5_firstDayWithFree_54 (lv_at hl 5 rfl) ?_
          refine lv_aload_n hx hb dX5_firstDayWithFree_56 rfl (lv_at hl 1 rfl) ?_
          refine lv_iload hx hb dX5_firstDayWithFree_57 (lv_at hl 4 rfl) ?_
          obtain ⟨r_36, h_37, hf⟩ := bd1_el hf
          refine x_callVl (As := [.int z4_27]) (rest := [.long z5_28]) ⟨hx, hb, hml, hown, hts⟩ (mX5_growthPerDay l D cy a0 a1 a2 a3 a4 a5 a6 a7 a8 a9 a10 a11 Asz Anu Aba Amo Aco Hsz Hla Hce Bsz Bla Bce Tma Tlc Ttc day lim low hig thr off cre rcp pay z4_27 r_36 h_37) (cwV 1 hts (gcV_X5_growthPerDay hbg wm_14_19) rfl rfl rfl kdX5_growthPerDay ⟨Nat.le_of_ble_eq_true rfl, Nat.le_of_ble_eq_true rfl⟩) (w1 := []) (w2 := []) (w' := wX5 cy a0 a1 a2 a3 a4 a5 a6 a7 a8 a9 a10 a11 Asz Anu Aba Amo Aco Hsz Hla Hce Bsz Bla Bce Tma Tlc Ttc day lim low hig thr off cre rcp pay) (List.append_nil _) (List.append_nil _) hP hK hD hN hS hA (q0 := 0) rfl rfl rfl rfl hl rfl (Nat.le_of_ble_eq_true rfl) dX5_firstDayWithFree_59 ⟨Nat.zero_le _, Nat.zero_le _⟩ (fun H locs hP hD hS => ?_)
          refine lv_ladd hx hb dX5_firstDayWithFree_62 ?_
          obtain ⟨x5_38, ex5_38, hf⟩ := lt_el hf
          refine x_topl ex5_38 ?_
          refine lv_lstore (lv' := [(5, .long x5_38), (8, .int x8_31), (0, .ref a0), (2, .int p2), (3, .int r_1), (4, .int z4_27), (7, .int z7_29)]) hx hb dX5_firstDayWithFree_63 hl (by decide) rfl (fun ls hl => ?_)
          refine lv_iload hx hb dX5_firstDayWithFree_65 (lv_at hl 1 rfl) ?_
          refine lv_bipush (v := 30) hx hb dX5_firstDayWithFree_67 (by decide) ?_
          refine lv_irem hx hb dX5_firstDayWithFree_69 (by decide) ?_
          refine lv_if_ne (tgt := 102) hx hb dX5_firstDayWithFree_70 (by decide) (fun c_39 => ?_) (fun c_39 => ?_)
          · have hf := x_f c_39 hf
            refine lv_iload hx hb dX5_firstDayWithFree_102 (lv_at hl 5 rfl) ?_
            refine lv_aload_n hx hb dX5_firstDayWithFree_104 rfl (lv_at hl 2 rfl) ?_
            refine lv_iload_n hx hb dX5_firstDayWithFree_105 rfl (lv_at hl 4 rfl) ?_
            refine lv_iload hx hb dX5_firstDayWithFree_106 (lv_at hl 1 rfl) ?_
            obtain ⟨r_40, h_41, hf⟩ := bd1_el hf
            refine x_callVi (As := [.int r_1, .int x8_31]) (rest := [.int z4_27]) ⟨hx, hb, hml, hown, hts⟩ (mX5_heldOn l D cy a0 a1 a2 a3 a4 a5 a6 a7 a8 a9 a10 a11 Asz Anu Aba Amo Aco Hsz Hla Hce Bsz Bla Bce Tma Tlc Ttc day lim low hig thr off cre rcp pay r_1 x8_31 r_40 h_41) (cwV 2 hts (gcV_X5_heldOn hbg wm_15_15) rfl rfl rfl kdX5_heldOn ⟨Nat.le_of_ble_eq_true rfl, Nat.le_of_ble_eq_true rfl⟩) (w1 := []) (w2 := []) (w' := wX5 cy a0 a1 a2 a3 a4 a5 a6 a7 a8 a9 a10 a11 Asz Anu Aba Amo Aco Hsz Hla Hce Bsz Bla Bce Tma Tlc Ttc day lim low hig thr off cre rcp pay) (List.append_nil _) (List.append_nil _) hP hK hD hN hS hA (q0 := 0) rfl rfl rfl rfl hl rfl (Nat.le_of_ble_eq_true rfl) dX5_firstDayWithFree_108 ⟨Nat.zero_le _, Nat.zero_le _⟩ (fun H locs hP hD hS => ?_)
            refine lv_isub hx hb dX5_firstDayWithFree_111 ?_
            refine lv_iload_n hx hb dX5_firstDayWithFree_112 rfl (lv_at hl 3 rfl) ?_
            refine lv_icmp_lt (tgt := 119) hx hb dX5_firstDayWithFree_113 (by decide) (fun c_42 => ?_) (fun c_42 => ?_)
            · have hf := x_t c_42 hf
              refine lv_iinc (v := (z7_29 + 1)) (lv' := [(7, .int (z7_29 + 1)), (5, .long x5_38), (8, .int x8_31), (0, .ref a0), (2, .int p2), (3, .int r_1), (4, .int z4_27)]) hx hb dX5_firstDayWithFree_119 hl (k := 6) rfl rfl (by decide) rfl (fun ls hl => ?_)
              refine lv_goto (tgt := 32) hx hb dX5_firstDayWithFree_122 (by decide) ?_
              exact ih z4_27 x5_38 (z7_29 + 1) _ _ _ _ hf hP hD hS (lv_sub hl [3, 4, 5, 6, 1, 0] rfl) hr_32 kx_32
            · have hf := x_f c_42 hf
              refine lv_iload hx hb dX5_firstDayWithFree_116 (lv_at hl 1 rfl) ?_
              have hf := Option.some.inj hf
              have hf := (hr_32 _ hf.symm)
              cases hf
              exact x_iret hx hb hr hlocks hK hP hD hS dX5_firstDayWithFree_118
          · have hf := x_t c_39 hf
            refine lv_aload_n hx hb dX5_firstDayWithFree_73 rfl (lv_at hl 2 rfl) ?_
            refine lv_iload hx hb dX5_firstDayWithFree_74 (lv_at hl 5 rfl) ?_
            refine lv_lload hx hb dX5_firstDayWithFree_76 (lv_at hl 0 rfl) ?_
            obtain ⟨r_43, h_44, hf⟩ := bd1_el hf
            refine x_callVi (As := [.int z4_27, .long x5_38]) (rest := []) ⟨hx, hb, hml, hown, hts⟩ (mX5_interestToCredit l D cy a0 a1 a2 a3 a4 a5 a6 a7 a8 a9 a10 a11 Asz Anu Aba Amo Aco Hsz Hla Hce Bsz Bla Bce Tma Tlc Ttc day lim low hig thr off cre rcp pay z4_27 x5_38 r_43 h_44) (cwV 2 hts (gcV_X5_interestToCredit hbg wm_14_23) rfl rfl rfl kdX5_interestToCredit ⟨Nat.le_of_ble_eq_true rfl, Nat.le_of_ble_eq_true rfl⟩) (w1 := []) (w2 := []) (w' := wX5 cy a0 a1 a2 a3 a4 a5 a6 a7 a8 a9 a10 a11 Asz Anu Aba Amo Aco Hsz Hla Hce Bsz Bla Bce Tma Tlc Ttc day lim low hig thr off cre rcp pay) (List.append_nil _) (List.append_nil _) hP hK hD hN hS hA (q0 := 0) rfl rfl rfl rfl hl rfl (Nat.le_of_ble_eq_true rfl) dX5_firstDayWithFree_78 ⟨Nat.zero_le _, Nat.zero_le _⟩ (fun H locs hP hD hS => ?_)
            refine lv_istore (lv' := [(9, .int r_43), (5, .long x5_38), (8, .int x8_31), (0, .ref a0), (2, .int p2), (3, .int r_1), (4, .int z4_27), (7, .int z7_29)]) hx hb dX5_firstDayWithFree_81 hl (by decide) rfl (fun ls hl => ?_)
            refine lv_iload hx hb dX5_firstDayWithFree_83 (lv_at hl 6 rfl) ?_
            refine lv_iload hx hb dX5_firstDayWithFree_85 (lv_at hl 0 rfl) ?_
            refine lv_iadd hx hb dX5_firstDayWithFree_87 ?_
            obtain ⟨x4_45, ex4_45, hf⟩ := lt_el hf
            refine x_topi ex4_45 ?_
            refine lv_istore (lv' := [(4, .int x4_45), (9, .int r_43), (5, .long x5_38), (8, .int x8_31), (0, .ref a0), (2, .int p2), (3, .int r_1), (7, .int z7_29)]) hx hb dX5_firstDayWithFree_88 hl (by decide) rfl (fun ls hl => ?_)
            refine lv_lload hx hb dX5_firstDayWithFree_90 (lv_at hl 2 rfl) ?_
            refine lv_ldc2 hx hb hown wd2 dX5_firstDayWithFree_92 ?_
            refine lv_iload hx hb dX5_firstDayWithFree_95 (lv_at hl 1 rfl) ?_
            refine lv_i2l (v := r_43.toInt64) hx hb dX5_firstDayWithFree_97 rfl ?_
            refine lv_lmul hx hb dX5_firstDayWithFree_98 ?_
            refine lv_lsub hx hb dX5_firstDayWithFree_99 ?_
            obtain ⟨x5_46, ex5_46, hf⟩ := lt_el hf
            refine x_topl ex5_46 ?_
            refine lv_lstore (lv' := [(5, .long x5_46), (4, .int x4_45), (9, .int r_43), (8, .int x8_31), (0, .ref a0), (2, .int p2), (3, .int r_1), (7, .int z7_29)]) hx hb dX5_firstDayWithFree_100 hl (by decide) rfl (fun ls hl => ?_)
            refine lv_iload hx hb dX5_firstDayWithFree_102 (lv_at hl 1 rfl) ?_
            refine lv_aload_n hx hb dX5_firstDayWithFree_104 rfl (lv_at hl 4 rfl) ?_
            refine lv_iload_n hx hb dX5_firstDayWithFree_105 rfl (lv_at hl 6 rfl) ?_
            refine lv_iload hx hb dX5_firstDayWithFree_106 (lv_at hl 3 rfl) ?_
            obtain ⟨r_47, h_48, hf⟩ := bd1_el hf
            refine x_callVi (As := [.int r_1, .int x8_31]) (rest := [.int x4_45]) ⟨hx, hb, hml, hown, hts⟩ (mX5_heldOn l D cy a0 a1 a2 a3 a4 a5 a6 a7 a8 a9 a10 a11 Asz Anu Aba Amo Aco Hsz Hla Hce Bsz Bla Bce Tma Tlc Ttc day lim low hig thr off cre rcp pay r_1 x8_31 r_47 h_48) (cwV 2 hts (gcV_X5_heldOn hbg wm_15_15) rfl rfl rfl kdX5_heldOn ⟨Nat.le_of_ble_eq_true rfl, Nat.le_of_ble_eq_true rfl⟩) (w1 := []) (w2 := []) (w' := wX5 cy a0 a1 a2 a3 a4 a5 a6 a7 a8 a9 a10 a11 Asz Anu Aba Amo Aco Hsz Hla Hce Bsz Bla Bce Tma Tlc Ttc day lim low hig thr off cre rcp pay) (List.append_nil _) (List.append_nil _) hP hK hD hN hS hA (q0 := 0) rfl rfl rfl rfl hl rfl (Nat.le_of_ble_eq_true rfl) dX5_firstDayWithFree_108 ⟨Nat.zero_le _, Nat.zero_le _⟩ (fun H locs hP hD hS => ?_)
            refine lv_isub hx hb dX5_firstDayWithFree_111 ?_
            refine lv_iload_n hx hb dX5_firstDayWithFree_112 rfl (lv_at hl 5 rfl) ?_
            refine lv_icmp_lt (tgt := 119) hx hb dX5_firstDayWithFree_113 (by decide) (fun c_49 => ?_) (fun c_49 => ?_)
            · have hf := x_t c_49 hf
              refine lv_iinc (v := (z7_29 + 1)) (lv' := [(7, .int (z7_29 + 1)), (5, .long x5_46), (4, .int x4_45), (9, .int r_43), (8, .int x8_31), (0, .ref a0), (2, .int p2), (3, .int r_1)]) hx hb dX5_firstDayWithFree_119 hl (k := 7) rfl rfl (by decide) rfl (fun ls hl => ?_)
              refine lv_goto (tgt := 32) hx hb dX5_firstDayWithFree_122 (by decide) ?_
              exact ih x4_45 x5_46 (z7_29 + 1) _ _ _ _ hf hP hD hS (lv_sub hl [5, 6, 7, 2, 1, 0] rfl) hr_32 kx_32
            · have hf := x_f c_49 hf
              refine lv_iload hx hb dX5_firstDayWithFree_116 (lv_at hl 3 rfl) ?_
              have hf := Option.some.inj hf
              have hf := (hr_32 _ hf.symm)
              cases hf
              exact x_iret hx hb hr hlocks hK hP hD hS dX5_firstDayWithFree_118
  obtain ⟨o_32, h1_32, hr_32, hf⟩ := bs0_el hf
  refine hL_32 2147483648 r_3 r_5 0 o_32 _ _ _ h1_32 hP hD hS (lv_sub hl [4, 6, 3, 2, 1, 0] rfl) hr_32 (fun  ho H locs ls hP hD hS hl => ?_)
  have hf := hf () ho
  refine lv_bipush (v := (-6)) hx hb dX5_firstDayWithFree_125 (by decide) ?_
  have hf := Option.some.inj hf
  cases hf
  exact x_iret hx hb hr hlocks hK hP hD hS dX5_firstDayWithFree_127
theorem kdX5_interestAhead : yX5_interestAhead.cls = RX5 ∧ yX5_interestAhead.cls ≠ "java/lang/invoke/MethodHandle" ∧ yX5_interestAhead.cls ≠ "java/lang/invoke/VarHandle" ∧ (parseMethodDescriptor yX5_interestAhead.desc).map (fun d => d.parameters.length) = some 2 := by decide +kernel
def rmX5_interestAhead : Room := { frames := 2, cells := 0, slots := 0, locals := 48 }
set_option maxHeartbeats 4000000 in
set_option maxRecDepth 100000 in
theorem mX5_interestAhead (l : Launch) (D : va_G) (cy : Nat → ClassId) (a0 a1 a2 a3 a4 a5 a6 a7 a8 a9 a10 a11 : Nat) (Asz : Int32) (Anu : Nat → Int32) (Aba : Nat → Int32) (Amo : Nat → Int32) (Aco : Nat → Int64) (Hsz : Int32) (Hla : Int32) (Hce : Nat → Int32) (Bsz : Int32) (Bla : Int32) (Bce : Nat → Int32) (Tma : Int32) (Tlc : Int32) (Ttc : Nat → Int32) (day : Int32) (lim : Int32) (low : Int32) (hig : Int32) (thr : Int32) (off : Int64) (cre : Int64) (rcp : Int64) (pay : Int64) (p1 : Int32) (p2 : Int32) (r : Int32) (hf : fX5_interestAhead Asz Aba Aco day lim low hig thr p1 p2 = some r) : xMi l D cy yX5_interestAhead aX5_interestAhead rmX5_interestAhead ([.ref a0, .int p1, .int p2] : List Value) (wX5 cy a0 a1 a2 a3 a4 a5 a6 a7 a8 a9 a10 a11 Asz Anu Aba Amo Aco Hsz Hla Hce Bsz Bla Bce Tma Tlc Ttc day lim low hig thr off cre rcp pay) (wX5 cy a0 a1 a2 a3 a4 a5 a6 a7 a8 a9 a10 a11 Asz Anu Aba Amo Aco Hsz Hla Hce Bsz Bla Bce Tma Tlc Ttc day lim low hig thr off cre rcp pay) r := by
  intro hz
  refine x_start (Qc := xQi D cy _ r) (cc := cX5_interestAhead) (maxL := 10) (ret := (some .int)) (by decide) rfl (Nat.le_of_ble_eq_true rfl) (lv := [(0, .ref a0), (1, .int p1), (2, .int p2)]) rfl ?_
  intro p e s m below meth c ls A hx hb hr hml hown hts hlocks hK hP hD hS hA hN hl
  have hown : s.vm.findClass RX5 = some m.cls := hown
  have hbg : ∀ w ∈ wsL_law, w ∈ aX5_interestAhead := fun w h => List.mem_cons_of_mem _ h
  have wd0 : (Cond.fieldLink RX5 12 "ClientMoneyBook$State" "accounts" "LClientMoneyBook$Accounts;").before ([.ref a0, .int p1, .int p2] : List Value).toArray s = true := hts _ (List.mem_cons_of_mem _ wm_1_20)
  have wd1 : (Cond.fieldLink RX5 35 "ClientMoneyBook$State" "day" "I").before ([.ref a0, .int p1, .int p2] : List Value).toArray s = true := hts _ (List.mem_cons_of_mem _ wm_2_6)
  have wd2 : (Cond.initialized RX7).before ([.ref a0, .int p1, .int p2] : List Value).toArray s = true := hts _ (List.mem_cons_of_mem _ wm_0_2)
  have wd3 : (Cond.static yX7_nextCreditDay).before ([.ref a0, .int p1, .int p2] : List Value).toArray s = true := hts _ (List.mem_cons_of_mem _ wm_14_17)
  have wd4 : (Cond.constantLong RX5 167 (3650000)).before ([.ref a0, .int p1, .int p2] : List Value).toArray s = true := hts _ (List.mem_cons_of_mem _ wm_14_12)
  have iX5 : ∀ w ∈ u_ws RX5 TX5 13, w ∈ aX5_interestAhead := fun w h => List.mem_cons_of_mem _ (inlX5 w h)
  unfold fX5_interestAhead at hf
  refine lv_aload_n hx hb dX5_interestAhead_0 rfl (lv_at hl 0 rfl) ?_
  refine x_get hx hb (C := RX5) (T := TX5) (N := 13) (ci := 5) hts iX5 hown hK hP 0 rfl rfl 0 (by decide) wd0 rfl (.ref a1) rfl dX5_interestAhead_1 ?_
  refine lv_iload_n hx hb dX5_interestAhead_4 rfl (lv_at hl 1 rfl) ?_
  obtain ⟨r_1, h_2, hf⟩ := bd1_el hf
  refine x_callVi (As := [.int p1]) (rest := []) ⟨hx, hb, hml, hown, hts⟩ (mX0_balanceAt l D cy a1 a2 a3 a4 a5 Asz Anu Aba Amo Aco p1 r_1 h_2) (cwV 1 hts (gcV_X0_balanceAt hbg wm_8_13) rfl rfl rfl kdX0_balanceAt ⟨Nat.le_of_ble_eq_true rfl, Nat.le_of_ble_eq_true rfl⟩) (w1 := [(a0, .inr (5, [.ref a1, .ref a6, .ref a8, .ref a10, .int day, .int lim, .int low, .int hig, .int thr, .long off, .long cre, .long rcp, .long pay]))]) (w2 := wX4 cy a6 a7 Hsz Hla Hce ++ (wX4 cy a8 a9 Bsz Bla Bce ++ (wX6 cy a10 a11 Tma Tlc Ttc))) (w' := wX5 cy a0 a1 a2 a3 a4 a5 a6 a7 a8 a9 a10 a11 Asz Anu Aba Amo Aco Hsz Hla Hce Bsz Bla Bce Tma Tlc Ttc day lim low hig thr off cre rcp pay) rfl rfl hP hK hD hN hS hA (q0 := 0) rfl rfl rfl rfl hl rfl (Nat.le_of_ble_eq_true rfl) dX5_interestAhead_5 ⟨Nat.zero_le _, Nat.zero_le _⟩ (fun H locs hP hD hS => ?_)
  refine lv_istore_n (lv' := [(3, .int r_1), (0, .ref a0), (1, .int p1), (2, .int p2)]) hx hb dX5_interestAhead_8 rfl hl (by decide) rfl (fun ls hl => ?_)
  refine lv_aload_n hx hb dX5_interestAhead_9 rfl (lv_at hl 1 rfl) ?_
  refine x_get hx hb (C := RX5) (T := TX5) (N := 13) (ci := 5) hts iX5 hown hK hP 0 rfl rfl 0 (by decide) wd0 rfl (.ref a1) rfl dX5_interestAhead_10 ?_
  refine lv_iload_n hx hb dX5_interestAhead_13 rfl (lv_at hl 2 rfl) ?_
  obtain ⟨r_3, h_4, hf⟩ := bd1_el hf
  refine x_callVl (As := [.int p1]) (rest := []) ⟨hx, hb, hml, hown, hts⟩ (mX0_countAt l D cy a1 a2 a3 a4 a5 Asz Anu Aba Amo Aco p1 r_3 h_4) (cwV 1 hts (gcV_X0_countAt hbg wm_14_13) rfl rfl rfl kdX0_countAt ⟨Nat.le_of_ble_eq_true rfl, Nat.le_of_ble_eq_true rfl⟩) (w1 := [(a0, .inr (5, [.ref a1, .ref a6, .ref a8, .ref a10, .int day, .int lim, .int low, .int hig, .int thr, .long off, .long cre, .long rcp, .long pay]))]) (w2 := wX4 cy a6 a7 Hsz Hla Hce ++ (wX4 cy a8 a9 Bsz Bla Bce ++ (wX6 cy a10 a11 Tma Tlc Ttc))) (w' := wX5 cy a0 a1 a2 a3 a4 a5 a6 a7 a8 a9 a10 a11 Asz Anu Aba Amo Aco Hsz Hla Hce Bsz Bla Bce Tma Tlc Ttc day lim low hig thr off cre rcp pay) rfl rfl hP hK hD hN hS hA (q0 := 0) rfl rfl rfl rfl hl rfl (Nat.le_of_ble_eq_true rfl) dX5_interestAhead_14 ⟨Nat.zero_le _, Nat.zero_le _⟩ (fun H locs hP hD hS => ?_)
  refine lv_lstore (lv' := [(4, .long r_3), (3, .int r_1), (0, .ref a0), (1, .int p1), (2, .int p2)]) hx hb dX5_interestAhead_17 hl (by decide) rfl (fun ls hl => ?_)
  refine lv_iconst (v := 0) hx hb dX5_interestAhead_19 (by decide) ?_
  refine lv_istore (lv' := [(6, .int 0), (4, .long r_3), (3, .int r_1), (0, .ref a0), (1, .int p1), (2, .int p2)]) hx hb dX5_interestAhead_20 hl (by decide) rfl (fun ls hl => ?_)
  refine lv_aload_n hx hb dX5_interestAhead_22 rfl (lv_at hl 3 rfl) ?_
  refine x_get hx hb (C := RX5) (T := TX5) (N := 13) (ci := 5) hts iX5 hown hK hP 0 rfl rfl 4 (by decide) wd1 rfl (.int day) rfl dX5_interestAhead_23 ?_
  refine lv_istore (lv' := [(7, .int day), (6, .int 0), (4, .long r_3), (3, .int r_1), (0, .ref a0), (1, .int p1), (2, .int p2)]) hx hb dX5_interestAhead_26 hl (by decide) rfl (fun ls hl => ?_)
  refine lv_aload_n hx hb dX5_interestAhead_28 rfl (lv_at hl 4 rfl) ?_
  refine x_get hx hb (C := RX5) (T := TX5) (N := 13) (ci := 5) hts iX5 hown hK hP 0 rfl rfl 4 (by decide) wd1 rfl (.int day) rfl dX5_interestAhead_29 ?_
  obtain ⟨r_5, h_6, hf⟩ := bd1_el hf
  refine x_callNi (As := [.int day]) (rest := []) ⟨hx, hb, hml, hown, hts⟩ (mX7_nextCreditDay l D cy   day r_5 h_6) ⟨va_cnB 1 hts (gcB_X7_nextCreditDay hbg) rfl rfl rfl (nb_use hN 1 rfl) wd2 kdX7_nextCreditDay ⟨Nat.le_of_ble_eq_true rfl, Nat.le_of_ble_eq_true rfl⟩, wd3, trivial⟩ (w1 := []) (w2 := wX5 cy a0 a1 a2 a3 a4 a5 a6 a7 a8 a9 a10 a11 Asz Anu Aba Amo Aco Hsz Hla Hce Bsz Bla Bce Tma Tlc Ttc day lim low hig thr off cre rcp pay) (w' := wX5 cy a0 a1 a2 a3 a4 a5 a6 a7 a8 a9 a10 a11 Asz Anu Aba Amo Aco Hsz Hla Hce Bsz Bla Bce Tma Tlc Ttc day lim low hig thr off cre rcp pay) rfl rfl hP hK hD hN hS hA rfl hl rfl (Nat.le_of_ble_eq_true rfl) dX5_interestAhead_32 ⟨Nat.zero_le _, Nat.zero_le _⟩ (fun H locs hP hD hS => ?_)
  refine lv_istore (lv' := [(8, .int r_5), (7, .int day), (6, .int 0), (4, .long r_3), (3, .int r_1), (0, .ref a0), (1, .int p1), (2, .int p2)]) hx hb dX5_interestAhead_35 hl (by decide) rfl (fun ls hl => ?_)
  have hL_37 : ∀ (n : Nat) (z3_17 : Int32) (z4_18 : Int64) (z6_19 : Int32) (z7_20 : Int32) (z8_21 : Int32) (o : Int32) (H : Heap) (locs : List Loc) (ls : Array Slot), fX5_interestAhead_L37 day lim low hig thr p2 n z3_17 z4_18 z6_19 z7_20 z8_21 = some o → va_P D vwCl (wX5 cy a0 a1 a2 a3 a4 a5 a6 a7 a8 a9 a10 a11 Asz Anu Aba Amo Aco Hsz Hla Hce Bsz Bla Bce Tma Tlc Ttc day lim low hig thr off cre rcp pay) H → va_D A (wX5 cy a0 a1 a2 a3 a4 a5 a6 a7 a8 a9 a10 a11 Asz Anu Aba Amo Aco Hsz Hla Hce Bsz Bla Bce Tma Tlc Ttc day lim low hig thr off cre rcp pay) → va_S A s.heap H locs → lv_has ls 10 [(0, .ref a0), (2, .int p2), (3, .int z3_17), (4, .long z4_18), (6, .int z6_19), (7, .int z7_20), (8, .int z8_21)] → True → ((∀ (x6_22 : Int32) , o = x6_22 → ∀ (H : Heap) (locs : List Loc) (ls : Array Slot), va_P D vwCl (wX5 cy a0 a1 a2 a3 a4 a5 a6 a7 a8 a9 a10 a11 Asz Anu Aba Amo Aco Hsz Hla Hce Bsz Bla Bce Tma Tlc Ttc day lim low hig thr off cre rcp pay) H → va_D A (wX5 cy a0 a1 a2 a3 a4 a5 a6 a7 a8 a9 a10 a11 Asz Anu Aba Amo Aco Hsz Hla Hce Bsz Bla Bce Tma Tlc Ttc day lim low hig thr off cre rcp pay) → va_S A s.heap H locs → lv_has ls 10 [(6, .int x6_22)] →  W p l e rmX5_interestAhead s m ([.ref a0, .int p1, .int p2] : List Value).toArray below meth c H locs 0 0 (MQ below (xQi D cy (wX5 cy a0 a1 a2 a3 a4 a5 a6 a7 a8 a9 a10 a11 Asz Anu Aba Amo Aco Hsz Hla Hce Bsz Bla Bce Tma Tlc Ttc day lim low hig thr off cre rcp pay) r A) ([.ref a0, .int p1, .int p2] : List Value).toArray s 0 0 A) (F0 m 108 ls []))) → W p l e rmX5_interestAhead s m ([.ref a0, .int p1, .int p2] : List Value).toArray below meth c H locs 0 0 (MQ below (xQi D cy (wX5 cy a0 a1 a2 a3 a4 a5 a6 a7 a8 a9 a10 a11 Asz Anu Aba Amo Aco Hsz Hla Hce Bsz Bla Bce Tma Tlc Ttc day lim low hig thr off cre rcp pay) r A) ([.ref a0, .int p1, .int p2] : List Value).toArray s 0 0 A) (F0 m 37 ls []) := by
    intro n
    induction n with
    | zero =>
      intro z3_17 z4_18 z6_19 z7_20 z8_21 o_37 H locs ls hf
      rw [fX5_interestAhead_L37] at hf
      cases hf
    | succ n ih =>
      intro z3_17 z4_18 z6_19 z7_20 z8_21 o_37 H locs ls hf hP hD hS hl hr_37 kx_37
      rw [fX5_interestAhead_L37] at hf
      refine lv_iload hx hb dX5_interestAhead_37 (lv_at hl 6 rfl) ?_
      refine lv_aload_n hx hb dX5_interestAhead_39 rfl (lv_at hl 0 rfl) ?_
      refine x_get hx hb (C := RX5) (T := TX5) (N := 13) (ci := 5) hts iX5 hown hK hP 0 rfl rfl 4 (by decide) wd1 rfl (.int day) rfl dX5_interestAhead_40 ?_
      refine lv_iload_n hx hb dX5_interestAhead_43 rfl (lv_at hl 1 rfl) ?_
      refine lv_iadd hx hb dX5_interestAhead_44 ?_
      refine lv_icmp_gt (tgt := 108) hx hb dX5_interestAhead_45 (by decide) (fun c_23 => ?_) (fun c_23 => ?_)
      · have hf := x_t c_23 hf
        exact kx_37 z6_19 (Option.some.inj hf).symm _ _ _ hP hD hS (lv_sub hl [4] rfl)
      · have hf := x_f c_23 hf
        refine lv_lload hx hb dX5_interestAhead_48 (lv_at hl 3 rfl) ?_
        refine lv_aload_n hx hb dX5_interestAhead_50 rfl (lv_at hl 0 rfl) ?_
        refine lv_iload_n hx hb dX5_interestAhead_51 rfl (lv_at hl 2 rfl) ?_
        obtain ⟨r_24, h_25, hf⟩ := bd1_el hf
        refine x_callVl (As := [.int z3_17]) (rest := [.long z4_18]) ⟨hx, hb, hml, hown, hts⟩ (mX5_growthPerDay l D cy a0 a1 a2 a3 a4 a5 a6 a7 a8 a9 a10 a11 Asz Anu Aba Amo Aco Hsz Hla Hce Bsz Bla Bce Tma Tlc Ttc day lim low hig thr off cre rcp pay z3_17 r_24 h_25) (cwV 1 hts (gcV_X5_growthPerDay hbg wm_14_19) rfl rfl rfl kdX5_growthPerDay ⟨Nat.le_of_ble_eq_true rfl, Nat.le_of_ble_eq_true rfl⟩) (w1 := []) (w2 := []) (w' := wX5 cy a0 a1 a2 a3 a4 a5 a6 a7 a8 a9 a10 a11 Asz Anu Aba Amo Aco Hsz Hla Hce Bsz Bla Bce Tma Tlc Ttc day lim low hig thr off cre rcp pay) (List.append_nil _) (List.append_nil _) hP hK hD hN hS hA (q0 := 0) rfl rfl rfl rfl hl rfl (Nat.le_of_ble_eq_true rfl) dX5_interestAhead_52 ⟨Nat.zero_le _, Nat.zero_le _⟩ (fun H locs hP hD hS => ?_)
        refine lv_iload hx hb dX5_interestAhead_55 (lv_at hl 6 rfl) ?_
        refine lv_iload hx hb dX5_interestAhead_57 (lv_at hl 5 rfl) ?_
        refine lv_isub hx hb dX5_interestAhead_59 ?_
        refine lv_i2l (v := (z8_21 - z7_20).toInt64) hx hb dX5_interestAhead_60 rfl ?_
        refine lv_lmul hx hb dX5_interestAhead_61 ?_
        refine lv_ladd hx hb dX5_interestAhead_62 ?_
        obtain ⟨x4_26, ex4_26, hf⟩ := lt_el hf
        refine x_topl ex4_26 ?_
        refine lv_lstore (lv' := [(4, .long x4_26), (0, .ref a0), (2, .int p2), (3, .int z3_17), (6, .int z6_19), (7, .int z7_20), (8, .int z8_21)]) hx hb dX5_interestAhead_63 hl (by decide) rfl (fun ls hl => ?_)
        refine lv_aload_n hx hb dX5_interestAhead_65 rfl (lv_at hl 1 rfl) ?_
        refine lv_iload_n hx hb dX5_interestAhead_66 rfl (lv_at hl 3 rfl) ?_
        refine lv_lload hx hb dX5_interestAhead_67 (lv_at hl 0 rfl) ?_
        obtain ⟨r_27, h_28, hf⟩ := bd1_el hf
        refine x_callVi (As := [.int z3_17, .long x4_26]) (rest := []) ⟨hx, hb, hml, hown, hts⟩ (mX5_interestToCredit l D cy a0 a1 a2 a3 a4 a5 a6 a7 a8 a9 a10 a11 Asz Anu Aba Amo Aco Hsz Hla Hce Bsz Bla Bce Tma Tlc Ttc day lim low hig thr off cre rcp pay z3_17 x4_26 r_27 h_28) (cwV 2 hts (gcV_X5_interestToCredit hbg wm_14_23) rfl rfl rfl kdX5_interestToCredit ⟨Nat.le_of_ble_eq_true rfl, Nat.le_of_ble_eq_true rfl⟩) (w1 := []) (w2 := []) (w' := wX5 cy a0 a1 a2 a3 a4 a5 a6 a7 a8 a9 a10 a11 Asz Anu Aba Amo Aco Hsz Hla Hce Bsz Bla Bce Tma Tlc Ttc day lim low hig thr off cre rcp pay) (List.append_nil _) (List.append_nil _) hP hK hD hN hS hA (q0 := 0) rfl rfl rfl rfl hl rfl (Nat.le_of_ble_eq_true rfl) dX5_interestAhead_69 ⟨Nat.zero_le _, Nat.zero_le _⟩ (fun H locs hP hD hS => ?_)
        refine lv_istore (lv' := [(9, .int r_27), (4, .long x4_26), (0, .ref a0), (2, .int p2), (3, .int z3_17), (6, .int z6_19), (7, .int z7_20), (8, .int z8_21)]) hx hb dX5_interestAhead_72 hl (by decide) rfl (fun ls hl => ?_)
        refine lv_iload_n hx hb dX5_interestAhead_74 rfl (lv_at hl 4 rfl) ?_
        refine lv_iload hx hb dX5_interestAhead_75 (lv_at hl 0 rfl) ?_
        refine lv_iadd hx hb dX5_interestAhead_77 ?_
        obtain ⟨x3_29, ex3_29, hf⟩ := lt_el hf
        refine x_topi ex3_29 ?_
        refine lv_istore_n (lv' := [(3, .int x3_29), (9, .int r_27), (4, .long x4_26), (0, .ref a0), (2, .int p2), (6, .int z6_19), (7, .int z7_20), (8, .int z8_21)]) hx hb dX5_interestAhead_78 rfl hl (by decide) rfl (fun ls hl => ?_)
        refine lv_lload hx hb dX5_interestAhead_79 (lv_at hl 2 rfl) ?_
        refine lv_ldc2 hx hb hown wd4 dX5_interestAhead_81 ?_
        refine lv_iload hx hb dX5_interestAhead_84 (lv_at hl 1 rfl) ?_
        refine lv_i2l (v := r_27.toInt64) hx hb dX5_interestAhead_86 rfl ?_
        refine lv_lmul hx hb dX5_interestAhead_87 ?_
        refine lv_lsub hx hb dX5_interestAhead_88 ?_
        obtain ⟨x4_30, ex4_30, hf⟩ := lt_el hf
        refine x_topl ex4_30 ?_
        refine lv_lstore (lv' := [(4, .long x4_30), (3, .int x3_29), (9, .int r_27), (0, .ref a0), (2, .int p2), (6, .int z6_19), (7, .int z7_20), (8, .int z8_21)]) hx hb dX5_interestAhead_89 hl (by decide) rfl (fun ls hl => ?_)
        refine lv_iload hx hb dX5_interestAhead_91 (lv_at hl 5 rfl) ?_
        refine lv_iload hx hb dX5_interestAhead_93 (lv_at hl 2 rfl) ?_
        refine lv_iadd hx hb dX5_interestAhead_95 ?_
        obtain ⟨x6_31, ex6_31, hf⟩ := lt_el hf
        refine x_topi ex6_31 ?_
        refine lv_istore (lv' := [(6, .int x6_31), (4, .long x4_30), (3, .int x3_29), (9, .int r_27), (0, .ref a0), (2, .int p2), (7, .int z7_20), (8, .int z8_21)]) hx hb dX5_interestAhead_96 hl (by decide) rfl (fun ls hl => ?_)
        refine lv_iload hx hb dX5_interestAhead_98 (lv_at hl 7 rfl) ?_
        refine lv_istore (lv' := [(7, .int z8_21), (6, .int x6_31), (4, .long x4_30), (3, .int x3_29), (9, .int r_27), (0, .ref a0), (2, .int p2), (8, .int z8_21)]) hx hb dX5_interestAhead_100 hl (by decide) rfl (fun ls hl => ?_)
        refine lv_iinc (v := (z8_21 + 30)) (lv' := [(8, .int (z8_21 + 30)), (7, .int z8_21), (6, .int x6_31), (4, .long x4_30), (3, .int x3_29), (9, .int r_27), (0, .ref a0), (2, .int p2)]) hx hb dX5_interestAhead_102 hl (k := 7) rfl rfl (by decide) rfl (fun ls hl => ?_)
        refine lv_goto (tgt := 37) hx hb dX5_interestAhead_105 (by decide) ?_
        exact ih x3_29 x4_30 x6_31 z8_21 (z8_21 + 30) _ _ _ _ hf hP hD hS (lv_sub hl [6, 7, 4, 3, 2, 1, 0] rfl) hr_37 kx_37
  obtain ⟨x6_16, h1_37, hf⟩ := bd1_el hf
  refine hL_37 2147483648 r_1 r_3 0 day r_5 _ _ _ _ h1_37 hP hD hS (lv_sub hl [5, 7, 4, 3, 2, 1, 0] rfl) trivial (fun x6_169 ho H locs ls hP hD hS hl => ?_)
  cases ho
  refine lv_iload hx hb dX5_interestAhead_108 (lv_at hl 0 rfl) ?_
  have hf := Option.some.inj hf
  cases hf
  exact x_iret hx hb hr hlocks hK hP hD hS dX5_interestAhead_110
