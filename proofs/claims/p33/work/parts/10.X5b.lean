theorem kdX5_endHold : yX5_endHold.cls = RX5 ∧ yX5_endHold.cls ≠ "java/lang/invoke/MethodHandle" ∧ yX5_endHold.cls ≠ "java/lang/invoke/VarHandle" ∧ (parseMethodDescriptor yX5_endHold.desc).map (fun d => d.parameters.length) = some 1 := by decide +kernel
def rmX5_endHold : Room := { frames := 3, cells := 0, slots := 0, locals := 67 }
set_option maxHeartbeats 4000000 in
set_option maxRecDepth 100000 in
theorem mX5_endHold (l : Launch) (D : va_G) (cy : Nat → ClassId) (a0 a1 a2 a3 a4 a5 a6 a7 a8 a9 a10 a11 : Nat) (Asz : Int32) (Anu : Nat → Int32) (Aba : Nat → Int32) (Amo : Nat → Int32) (Aco : Nat → Int64) (Hsz : Int32) (Hla : Int32) (Hce : Nat → Int32) (Bsz : Int32) (Bla : Int32) (Bce : Nat → Int32) (Tma : Int32) (Tlc : Int32) (Ttc : Nat → Int32) (day : Int32) (lim : Int32) (low : Int32) (hig : Int32) (thr : Int32) (off : Int64) (cre : Int64) (rcp : Int64) (pay : Int64) (p1 : Int32) (r : Int32) (Hsz' : Int32) (Hce' : Nat → Int32) (hf : fX5_endHold Asz Anu Aba Hsz Hce p1 = some (r, Hsz', Hce')) : xMi l D cy yX5_endHold aX5_endHold rmX5_endHold ([.ref a0, .int p1] : List Value) (wX5 cy a0 a1 a2 a3 a4 a5 a6 a7 a8 a9 a10 a11 Asz Anu Aba Amo Aco Hsz Hla Hce Bsz Bla Bce Tma Tlc Ttc day lim low hig thr off cre rcp pay) (wX5 cy a0 a1 a2 a3 a4 a5 a6 a7 a8 a9 a10 a11 Asz Anu Aba Amo Aco Hsz' Hla Hce' Bsz Bla Bce Tma Tlc Ttc day lim low hig thr off cre rcp pay) r := by
  intro hz
  refine x_start (Qc := xQi D cy _ r) (cc := cX5_endHold) (maxL := 4) (ret := (some .int)) (by decide) rfl (Nat.le_of_ble_eq_true rfl) (lv := [(0, .ref a0), (1, .int p1)]) rfl ?_
  intro p e s m below meth c ls A hx hb hr hml hown hts hlocks hK hP hD hS hA hN hl
  have hown : s.vm.findClass RX5 = some m.cls := hown
  have hbg : ∀ w ∈ wsL_law, w ∈ aX5_endHold := fun w h => List.mem_cons_of_mem _ h
  have wd0 : (Cond.fieldLink RX5 21 "ClientMoneyBook$State" "holds" "LClientMoneyBook$Rows;").before ([.ref a0, .int p1] : List Value).toArray s = true := hts _ (List.mem_cons_of_mem _ wm_2_0)
  have wd1 : (Cond.fieldLink RX5 12 "ClientMoneyBook$State" "accounts" "LClientMoneyBook$Accounts;").before ([.ref a0, .int p1] : List Value).toArray s = true := hts _ (List.mem_cons_of_mem _ wm_1_20)
  have iX5 : ∀ w ∈ u_ws RX5 TX5 13, w ∈ aX5_endHold := fun w h => List.mem_cons_of_mem _ (inlX5 w h)
  unfold fX5_endHold at hf
  refine lv_aload_n hx hb dX5_endHold_0 rfl (lv_at hl 0 rfl) ?_
  refine x_get hx hb (C := RX5) (T := TX5) (N := 13) (ci := 5) hts iX5 hown hK hP 0 rfl rfl 1 (by decide) wd0 rfl (.ref a6) rfl dX5_endHold_1 ?_
  refine lv_iload_n hx hb dX5_endHold_4 rfl (lv_at hl 1 rfl) ?_
  obtain ⟨r_1, h_2, hf⟩ := bd1_el hf
  refine x_callVi (As := [.int p1]) (rest := []) ⟨hx, hb, hml, hown, hts⟩ (mX4_find l D cy a6 a7 Hsz Hla Hce p1 r_1 h_2) (cwV 1 hts (gcV_X4_find hbg wm_12_19) rfl rfl rfl kdX4_find ⟨Nat.le_of_ble_eq_true rfl, Nat.le_of_ble_eq_true rfl⟩) (w1 := [(a0, .inr (5, [.ref a1, .ref a6, .ref a8, .ref a10, .int day, .int lim, .int low, .int hig, .int thr, .long off, .long cre, .long rcp, .long pay]))] ++ (wX0 cy a1 a2 a3 a4 a5 Asz Anu Aba Amo Aco)) (w2 := wX4 cy a8 a9 Bsz Bla Bce ++ (wX6 cy a10 a11 Tma Tlc Ttc)) (w' := wX5 cy a0 a1 a2 a3 a4 a5 a6 a7 a8 a9 a10 a11 Asz Anu Aba Amo Aco Hsz Hla Hce Bsz Bla Bce Tma Tlc Ttc day lim low hig thr off cre rcp pay) rfl rfl hP hK hD hN hS hA (q0 := 0) rfl rfl rfl rfl hl rfl (Nat.le_of_ble_eq_true rfl) dX5_endHold_5 ⟨Nat.zero_le _, Nat.zero_le _⟩ (fun H locs hP hD hS => ?_)
  refine lv_istore_n (lv' := [(2, .int r_1), (0, .ref a0), (1, .int p1)]) hx hb dX5_endHold_8 rfl hl (by decide) rfl (fun ls hl => ?_)
  refine lv_iload_n hx hb dX5_endHold_9 rfl (lv_at hl 0 rfl) ?_
  refine lv_if_ge (tgt := 15) hx hb dX5_endHold_10 (by decide) (fun c_3 => ?_) (fun c_3 => ?_)
  · have hf := x_t c_3 hf
    refine lv_aload_n hx hb dX5_endHold_15 rfl (lv_at hl 1 rfl) ?_
    refine x_get hx hb (C := RX5) (T := TX5) (N := 13) (ci := 5) hts iX5 hown hK hP 0 rfl rfl 0 (by decide) wd1 rfl (.ref a1) rfl dX5_endHold_16 ?_
    refine lv_aload_n hx hb dX5_endHold_19 rfl (lv_at hl 1 rfl) ?_
    refine x_get hx hb (C := RX5) (T := TX5) (N := 13) (ci := 5) hts iX5 hown hK hP 0 rfl rfl 1 (by decide) wd0 rfl (.ref a6) rfl dX5_endHold_20 ?_
    refine lv_iload_n hx hb dX5_endHold_23 rfl (lv_at hl 0 rfl) ?_
    refine lv_iconst (v := 1) hx hb dX5_endHold_24 (by decide) ?_
    obtain ⟨r_4, h_5, hf⟩ := bd1_el hf
    refine x_callVi (As := [.int r_1, .int 1]) (rest := [.ref a1]) ⟨hx, hb, hml, hown, hts⟩ (mX4_get l D cy a6 a7 Hsz Hla Hce r_1 1 r_4 h_5) (cwV 2 hts (gcV_X4_get hbg wm_12_23) rfl rfl rfl kdX4_get ⟨Nat.le_of_ble_eq_true rfl, Nat.le_of_ble_eq_true rfl⟩) (w1 := [(a0, .inr (5, [.ref a1, .ref a6, .ref a8, .ref a10, .int day, .int lim, .int low, .int hig, .int thr, .long off, .long cre, .long rcp, .long pay]))] ++ (wX0 cy a1 a2 a3 a4 a5 Asz Anu Aba Amo Aco)) (w2 := wX4 cy a8 a9 Bsz Bla Bce ++ (wX6 cy a10 a11 Tma Tlc Ttc)) (w' := wX5 cy a0 a1 a2 a3 a4 a5 a6 a7 a8 a9 a10 a11 Asz Anu Aba Amo Aco Hsz Hla Hce Bsz Bla Bce Tma Tlc Ttc day lim low hig thr off cre rcp pay) rfl rfl hP hK hD hN hS hA (q0 := 0) rfl rfl rfl rfl hl rfl (Nat.le_of_ble_eq_true rfl) dX5_endHold_25 ⟨Nat.zero_le _, Nat.zero_le _⟩ (fun H locs hP hD hS => ?_)
    obtain ⟨r_6, h_7, hf⟩ := bd1_el hf
    refine x_callVi (As := [.int r_4]) (rest := []) ⟨hx, hb, hml, hown, hts⟩ (mX0_find l D cy a1 a2 a3 a4 a5 Asz Anu Aba Amo Aco r_4 r_6 h_7) (cwV 1 hts (gcV_X0_find hbg wm_6_14) rfl rfl rfl kdX0_find ⟨Nat.le_of_ble_eq_true rfl, Nat.le_of_ble_eq_true rfl⟩) (w1 := [(a0, .inr (5, [.ref a1, .ref a6, .ref a8, .ref a10, .int day, .int lim, .int low, .int hig, .int thr, .long off, .long cre, .long rcp, .long pay]))]) (w2 := wX4 cy a6 a7 Hsz Hla Hce ++ (wX4 cy a8 a9 Bsz Bla Bce ++ (wX6 cy a10 a11 Tma Tlc Ttc))) (w' := wX5 cy a0 a1 a2 a3 a4 a5 a6 a7 a8 a9 a10 a11 Asz Anu Aba Amo Aco Hsz Hla Hce Bsz Bla Bce Tma Tlc Ttc day lim low hig thr off cre rcp pay) rfl rfl hP hK hD hN hS hA (q0 := 0) rfl rfl rfl rfl hl rfl (Nat.le_of_ble_eq_true rfl) dX5_endHold_28 ⟨Nat.zero_le _, Nat.zero_le _⟩ (fun H locs hP hD hS => ?_)
    refine lv_istore_n (lv' := [(3, .int r_6), (2, .int r_1), (0, .ref a0), (1, .int p1)]) hx hb dX5_endHold_31 rfl hl (by decide) rfl (fun ls hl => ?_)
    refine lv_aload_n hx hb dX5_endHold_32 rfl (lv_at hl 2 rfl) ?_
    refine x_get hx hb (C := RX5) (T := TX5) (N := 13) (ci := 5) hts iX5 hown hK hP 0 rfl rfl 1 (by decide) wd0 rfl (.ref a6) rfl dX5_endHold_33 ?_
    refine lv_iload_n hx hb dX5_endHold_36 rfl (lv_at hl 1 rfl) ?_
    obtain ⟨Hsz_8, Hce_9, h_10, hf⟩ := bd2_el hf
    refine x_callVv (As := [.int r_1]) (rest := []) ⟨hx, hb, hml, hown, hts⟩ (mX4_remove l D cy a6 a7 Hsz Hla Hce r_1 Hsz_8 Hce_9 h_10) (cwV 1 hts (gcV_X4_remove hbg wm_13_0) rfl rfl rfl kdX4_remove ⟨Nat.le_of_ble_eq_true rfl, Nat.le_of_ble_eq_true rfl⟩) (w1 := [(a0, .inr (5, [.ref a1, .ref a6, .ref a8, .ref a10, .int day, .int lim, .int low, .int hig, .int thr, .long off, .long cre, .long rcp, .long pay]))] ++ (wX0 cy a1 a2 a3 a4 a5 Asz Anu Aba Amo Aco)) (w2 := wX4 cy a8 a9 Bsz Bla Bce ++ (wX6 cy a10 a11 Tma Tlc Ttc)) (w' := wX5 cy a0 a1 a2 a3 a4 a5 a6 a7 a8 a9 a10 a11 Asz Anu Aba Amo Aco Hsz_8 Hla Hce_9 Bsz Bla Bce Tma Tlc Ttc day lim low hig thr off cre rcp pay) rfl rfl hP hK hD hN hS hA (q0 := 0) rfl rfl rfl rfl hl rfl (Nat.le_of_ble_eq_true rfl) dX5_endHold_37 ⟨Nat.zero_le _, Nat.zero_le _⟩ (fun H locs hP hD hS => ?_)
    refine lv_aload_n hx hb dX5_endHold_40 rfl (lv_at hl 2 rfl) ?_
    refine lv_iload_n hx hb dX5_endHold_41 rfl (lv_at hl 0 rfl) ?_
    obtain ⟨r_11, h_12, hf⟩ := bd1_el hf
    refine x_callVi (As := [.int r_6]) (rest := []) ⟨hx, hb, hml, hown, hts⟩ (mX5_freeAt l D cy a0 a1 a2 a3 a4 a5 a6 a7 a8 a9 a10 a11 Asz Anu Aba Amo Aco Hsz_8 Hla Hce_9 Bsz Bla Bce Tma Tlc Ttc day lim low hig thr off cre rcp pay r_6 r_11 h_12) (cwV 1 hts (gcV_X5_freeAt hbg wm_10_21) rfl rfl rfl kdX5_freeAt ⟨Nat.le_of_ble_eq_true rfl, Nat.le_of_ble_eq_true rfl⟩) (w1 := []) (w2 := []) (w' := wX5 cy a0 a1 a2 a3 a4 a5 a6 a7 a8 a9 a10 a11 Asz Anu Aba Amo Aco Hsz_8 Hla Hce_9 Bsz Bla Bce Tma Tlc Ttc day lim low hig thr off cre rcp pay) (List.append_nil _) (List.append_nil _) hP hK hD hN hS hA (q0 := 0) rfl rfl rfl rfl hl rfl (Nat.le_of_ble_eq_true rfl) dX5_endHold_42 ⟨Nat.zero_le _, Nat.zero_le _⟩ (fun H locs hP hD hS => ?_)
    have hf := Option.some.inj hf
    cases hf
    exact x_iret hx hb hr hlocks hK hP hD hS dX5_endHold_45
  · have hf := x_f c_3 hf
    refine lv_iconst (v := (-1)) hx hb dX5_endHold_13 (by decide) ?_
    have hf := Option.some.inj hf
    cases hf
    exact x_iret hx hb hr hlocks hK hP hD hS dX5_endHold_14
theorem kdX5_writeBill : yX5_writeBill.cls = RX5 ∧ yX5_writeBill.cls ≠ "java/lang/invoke/MethodHandle" ∧ yX5_writeBill.cls ≠ "java/lang/invoke/VarHandle" ∧ (parseMethodDescriptor yX5_writeBill.desc).map (fun d => d.parameters.length) = some 2 := by decide +kernel
def rmX5_writeBill : Room := { frames := 2, cells := 0, slots := 0, locals := 47 }
set_option maxHeartbeats 4000000 in
set_option maxRecDepth 100000 in
theorem mX5_writeBill (l : Launch) (D : va_G) (cy : Nat → ClassId) (a0 a1 a2 a3 a4 a5 a6 a7 a8 a9 a10 a11 : Nat) (Asz : Int32) (Anu : Nat → Int32) (Aba : Nat → Int32) (Amo : Nat → Int32) (Aco : Nat → Int64) (Hsz : Int32) (Hla : Int32) (Hce : Nat → Int32) (Bsz : Int32) (Bla : Int32) (Bce : Nat → Int32) (Tma : Int32) (Tlc : Int32) (Ttc : Nat → Int32) (day : Int32) (lim : Int32) (low : Int32) (hig : Int32) (thr : Int32) (off : Int64) (cre : Int64) (rcp : Int64) (pay : Int64) (p1 : Int32) (p2 : Int32) (r : Int32) (Bsz' : Int32) (Bla' : Int32) (Bce' : Nat → Int32) (hf : fX5_writeBill Asz Anu Bsz Bla Bce p1 p2 = some (r, Bsz', Bla', Bce')) : xMi l D cy yX5_writeBill aX5_writeBill rmX5_writeBill ([.ref a0, .int p1, .int p2] : List Value) (wX5 cy a0 a1 a2 a3 a4 a5 a6 a7 a8 a9 a10 a11 Asz Anu Aba Amo Aco Hsz Hla Hce Bsz Bla Bce Tma Tlc Ttc day lim low hig thr off cre rcp pay) (wX5 cy a0 a1 a2 a3 a4 a5 a6 a7 a8 a9 a10 a11 Asz Anu Aba Amo Aco Hsz Hla Hce Bsz' Bla' Bce' Tma Tlc Ttc day lim low hig thr off cre rcp pay) r := by
  intro hz
  refine x_start (Qc := xQi D cy _ r) (cc := cX5_writeBill) (maxL := 3) (ret := (some .int)) (by decide) rfl (Nat.le_of_ble_eq_true rfl) (lv := [(0, .ref a0), (1, .int p1), (2, .int p2)]) rfl ?_
  intro p e s m below meth c ls A hx hb hr hml hown hts hlocks hK hP hD hS hA hN hl
  have hown : s.vm.findClass RX5 = some m.cls := hown
  have hbg : ∀ w ∈ wsL_law, w ∈ aX5_writeBill := fun w h => List.mem_cons_of_mem _ h
  have wd0 : (Cond.fieldLink RX5 12 "ClientMoneyBook$State" "accounts" "LClientMoneyBook$Accounts;").before ([.ref a0, .int p1, .int p2] : List Value).toArray s = true := hts _ (List.mem_cons_of_mem _ wm_1_20)
  have wd1 : (Cond.initialized RX7).before ([.ref a0, .int p1, .int p2] : List Value).toArray s = true := hts _ (List.mem_cons_of_mem _ wm_0_2)
  have wd2 : (Cond.static yX7_isAmount).before ([.ref a0, .int p1, .int p2] : List Value).toArray s = true := hts _ (List.mem_cons_of_mem _ wm_8_10)
  have wd3 : (Cond.fieldLink RX5 25 "ClientMoneyBook$State" "bills" "LClientMoneyBook$Rows;").before ([.ref a0, .int p1, .int p2] : List Value).toArray s = true := hts _ (List.mem_cons_of_mem _ wm_2_1)
  have wd4 : (Cond.fieldLink RX5 111 "ClientMoneyBook$Rows" "size" "I").before ([.ref a0, .int p1, .int p2] : List Value).toArray s = true := hts _ (List.mem_cons_of_mem _ wm_12_2)
  have iX4 : ∀ w ∈ u_ws RX4 TX4 3, w ∈ aX5_writeBill := fun w h => List.mem_cons_of_mem _ (inlX4 w h)
  have iX5 : ∀ w ∈ u_ws RX5 TX5 13, w ∈ aX5_writeBill := fun w h => List.mem_cons_of_mem _ (inlX5 w h)
  unfold fX5_writeBill at hf
  refine lv_aload_n hx hb dX5_writeBill_0 rfl (lv_at hl 0 rfl) ?_
  refine x_get hx hb (C := RX5) (T := TX5) (N := 13) (ci := 5) hts iX5 hown hK hP 0 rfl rfl 0 (by decide) wd0 rfl (.ref a1) rfl dX5_writeBill_1 ?_
  refine lv_iload_n hx hb dX5_writeBill_4 rfl (lv_at hl 1 rfl) ?_
  obtain ⟨r_1, h_2, hf⟩ := bd1_el hf
  refine x_callVi (As := [.int p1]) (rest := []) ⟨hx, hb, hml, hown, hts⟩ (mX0_find l D cy a1 a2 a3 a4 a5 Asz Anu Aba Amo Aco p1 r_1 h_2) (cwV 1 hts (gcV_X0_find hbg wm_6_14) rfl rfl rfl kdX0_find ⟨Nat.le_of_ble_eq_true rfl, Nat.le_of_ble_eq_true rfl⟩) (w1 := [(a0, .inr (5, [.ref a1, .ref a6, .ref a8, .ref a10, .int day, .int lim, .int low, .int hig, .int thr, .long off, .long cre, .long rcp, .long pay]))]) (w2 := wX4 cy a6 a7 Hsz Hla Hce ++ (wX4 cy a8 a9 Bsz Bla Bce ++ (wX6 cy a10 a11 Tma Tlc Ttc))) (w' := wX5 cy a0 a1 a2 a3 a4 a5 a6 a7 a8 a9 a10 a11 Asz Anu Aba Amo Aco Hsz Hla Hce Bsz Bla Bce Tma Tlc Ttc day lim low hig thr off cre rcp pay) rfl rfl hP hK hD hN hS hA (q0 := 0) rfl rfl rfl rfl hl rfl (Nat.le_of_ble_eq_true rfl) dX5_writeBill_5 ⟨Nat.zero_le _, Nat.zero_le _⟩ (fun H locs hP hD hS => ?_)
  refine lv_if_ge (tgt := 13) hx hb dX5_writeBill_8 (by decide) (fun c_3 => ?_) (fun c_3 => ?_)
  · have hf := x_t c_3 hf
    refine lv_iload_n hx hb dX5_writeBill_13 rfl (lv_at hl 2 rfl) ?_
    obtain ⟨r_4, h_5, hf⟩ := bd1_el hf
    refine x_callNi (As := [.int p2]) (rest := []) ⟨hx, hb, hml, hown, hts⟩ (mX7_isAmount l D cy   p2 r_4 h_5) ⟨va_cnB 1 hts (gcB_X7_isAmount hbg) rfl rfl rfl (nb_use hN 0 rfl) wd1 kdX7_isAmount ⟨Nat.le_of_ble_eq_true rfl, Nat.le_of_ble_eq_true rfl⟩, wd2, trivial⟩ (w1 := []) (w2 := wX5 cy a0 a1 a2 a3 a4 a5 a6 a7 a8 a9 a10 a11 Asz Anu Aba Amo Aco Hsz Hla Hce Bsz Bla Bce Tma Tlc Ttc day lim low hig thr off cre rcp pay) (w' := wX5 cy a0 a1 a2 a3 a4 a5 a6 a7 a8 a9 a10 a11 Asz Anu Aba Amo Aco Hsz Hla Hce Bsz Bla Bce Tma Tlc Ttc day lim low hig thr off cre rcp pay) rfl rfl hP hK hD hN hS hA rfl hl rfl (Nat.le_of_ble_eq_true rfl) dX5_writeBill_14 ⟨Nat.zero_le _, Nat.zero_le _⟩ (fun H locs hP hD hS => ?_)
    refine lv_if_ne (tgt := 23) hx hb dX5_writeBill_17 (by decide) (fun c_6 => ?_) (fun c_6 => ?_)
    · have hf := x_f c_6 hf
      refine lv_aload_n hx hb dX5_writeBill_23 rfl (lv_at hl 0 rfl) ?_
      refine x_get hx hb (C := RX5) (T := TX5) (N := 13) (ci := 5) hts iX5 hown hK hP 0 rfl rfl 2 (by decide) wd3 rfl (.ref a8) rfl dX5_writeBill_24 ?_
      refine x_get hx hb (C := RX4) (T := TX4) (N := 3) (ci := 4) hts iX4 hown hK hP 8 rfl rfl 0 (by decide) wd4 rfl (.int Bsz) rfl dX5_writeBill_27 ?_
      refine lv_bipush (v := 15) hx hb dX5_writeBill_30 (by decide) ?_
      refine lv_icmp_lt (tgt := 38) hx hb dX5_writeBill_32 (by decide) (fun c_7 => ?_) (fun c_7 => ?_)
      · have hf := x_t c_7 hf
        refine lv_aload_n hx hb dX5_writeBill_38 rfl (lv_at hl 0 rfl) ?_
        refine x_get hx hb (C := RX5) (T := TX5) (N := 13) (ci := 5) hts iX5 hown hK hP 0 rfl rfl 2 (by decide) wd3 rfl (.ref a8) rfl dX5_writeBill_39 ?_
        refine lv_iload_n hx hb dX5_writeBill_42 rfl (lv_at hl 1 rfl) ?_
        refine lv_iload_n hx hb dX5_writeBill_43 rfl (lv_at hl 2 rfl) ?_
        refine lv_iconst (v := 0) hx hb dX5_writeBill_44 (by decide) ?_
        obtain ⟨r_8, Bsz_9, Bla_10, Bce_11, h_12, hf⟩ := bd4_el hf
        refine x_callVi (As := [.int p1, .int p2, .int 0]) (rest := []) ⟨hx, hb, hml, hown, hts⟩ (mX4_append l D cy a8 a9 Bsz Bla Bce p1 p2 0 r_8 Bsz_9 Bla_10 Bce_11 h_12) (cwV 3 hts (gcV_X4_append hbg wm_12_3) rfl rfl rfl kdX4_append ⟨Nat.le_of_ble_eq_true rfl, Nat.le_of_ble_eq_true rfl⟩) (w1 := [(a0, .inr (5, [.ref a1, .ref a6, .ref a8, .ref a10, .int day, .int lim, .int low, .int hig, .int thr, .long off, .long cre, .long rcp, .long pay]))] ++ (wX0 cy a1 a2 a3 a4 a5 Asz Anu Aba Amo Aco ++ (wX4 cy a6 a7 Hsz Hla Hce))) (w2 := wX6 cy a10 a11 Tma Tlc Ttc) (w' := wX5 cy a0 a1 a2 a3 a4 a5 a6 a7 a8 a9 a10 a11 Asz Anu Aba Amo Aco Hsz Hla Hce Bsz_9 Bla_10 Bce_11 Tma Tlc Ttc day lim low hig thr off cre rcp pay) rfl rfl hP hK hD hN hS hA (q0 := 0) rfl rfl rfl rfl hl rfl (Nat.le_of_ble_eq_true rfl) dX5_writeBill_45 ⟨Nat.zero_le _, Nat.zero_le _⟩ (fun H locs hP hD hS => ?_)
        have hf := Option.some.inj hf
        cases hf
        exact x_iret hx hb hr hlocks hK hP hD hS dX5_writeBill_48
      · have hf := x_f c_7 hf
        refine lv_bipush (v := (-4)) hx hb dX5_writeBill_35 (by decide) ?_
        have hf := Option.some.inj hf
        cases hf
        exact x_iret hx hb hr hlocks hK hP hD hS dX5_writeBill_37
    · have hf := x_t c_6 hf
      refine lv_bipush (v := (-2)) hx hb dX5_writeBill_20 (by decide) ?_
      have hf := Option.some.inj hf
      cases hf
      exact x_iret hx hb hr hlocks hK hP hD hS dX5_writeBill_22
  · have hf := x_f c_3 hf
    refine lv_iconst (v := (-1)) hx hb dX5_writeBill_11 (by decide) ?_
    have hf := Option.some.inj hf
    cases hf
    exact x_iret hx hb hr hlocks hK hP hD hS dX5_writeBill_12
theorem kdX5_settleBill : yX5_settleBill.cls = RX5 ∧ yX5_settleBill.cls ≠ "java/lang/invoke/MethodHandle" ∧ yX5_settleBill.cls ≠ "java/lang/invoke/VarHandle" ∧ (parseMethodDescriptor yX5_settleBill.desc).map (fun d => d.parameters.length) = some 1 := by decide +kernel
def rmX5_settleBill : Room := { frames := 4, cells := 0, slots := 0, locals := 96 }
set_option maxHeartbeats 4000000 in
set_option maxRecDepth 100000 in
theorem mX5_settleBill (l : Launch) (D : va_G) (cy : Nat → ClassId) (a0 a1 a2 a3 a4 a5 a6 a7 a8 a9 a10 a11 : Nat) (Asz : Int32) (Anu : Nat → Int32) (Aba : Nat → Int32) (Amo : Nat → Int32) (Aco : Nat → Int64) (Hsz : Int32) (Hla : Int32) (Hce : Nat → Int32) (Bsz : Int32) (Bla : Int32) (Bce : Nat → Int32) (Tma : Int32) (Tlc : Int32) (Ttc : Nat → Int32) (day : Int32) (lim : Int32) (low : Int32) (hig : Int32) (thr : Int32) (off : Int64) (cre : Int64) (rcp : Int64) (pay : Int64) (p1 : Int32) (r : Int32) (Aba' : Nat → Int32) (Amo' : Nat → Int32) (Bsz' : Int32) (Bce' : Nat → Int32) (Tma' : Int32) (Tlc' : Int32) (Ttc' : Nat → Int32) (off' : Int64) (hf : fX5_settleBill Asz Anu Aba Amo Hsz Hce Bsz Bce Tma Tlc Ttc day off p1 = some (r, Aba', Amo', Bsz', Bce', Tma', Tlc', Ttc', off')) : xMi l D cy yX5_settleBill aX5_settleBill rmX5_settleBill ([.ref a0, .int p1] : List Value) (wX5 cy a0 a1 a2 a3 a4 a5 a6 a7 a8 a9 a10 a11 Asz Anu Aba Amo Aco Hsz Hla Hce Bsz Bla Bce Tma Tlc Ttc day lim low hig thr off cre rcp pay) (wX5 cy a0 a1 a2 a3 a4 a5 a6 a7 a8 a9 a10 a11 Asz Anu Aba' Amo' Aco Hsz Hla Hce Bsz' Bla Bce' Tma' Tlc' Ttc' day lim low hig thr off' cre rcp pay) r := by
  intro hz
  refine x_start (Qc := xQi D cy _ r) (cc := cX5_settleBill) (maxL := 7) (ret := (some .int)) (by decide) rfl (Nat.le_of_ble_eq_true rfl) (lv := [(0, .ref a0), (1, .int p1)]) rfl ?_
  intro p e s m below meth c ls A hx hb hr hml hown hts hlocks hK hP hD hS hA hN hl
  have hown : s.vm.findClass RX5 = some m.cls := hown
  have hbg : ∀ w ∈ wsL_law, w ∈ aX5_settleBill := fun w h => List.mem_cons_of_mem _ h
  have wd0 : (Cond.fieldLink RX5 25 "ClientMoneyBook$State" "bills" "LClientMoneyBook$Rows;").before ([.ref a0, .int p1] : List Value).toArray s = true := hts _ (List.mem_cons_of_mem _ wm_2_1)
  have wd1 : (Cond.fieldLink RX5 12 "ClientMoneyBook$State" "accounts" "LClientMoneyBook$Accounts;").before ([.ref a0, .int p1] : List Value).toArray s = true := hts _ (List.mem_cons_of_mem _ wm_1_20)
  have wd2 : (Cond.methodLink RX5 122 Lib.Math.min.name).before ([.ref a0, .int p1] : List Value).toArray s = true := hts _ (List.mem_cons_of_mem _ wm_13_20)
  have wd3 : (Cond.static Lib.Math.min.name).before ([.ref a0, .int p1] : List Value).toArray s = true := hts _ (List.mem_cons_of_mem _ wm_7_19)
  have wd4 : (Cond.initialized "java/lang/Math").before ([.ref a0, .int p1] : List Value).toArray s = true := hts _ (List.mem_cons_of_mem _ wm_7_20)
  have wd5 : (Cond.code Lib.Math.min.name Lib.Math.min.code 2 (some .int)).before ([.ref a0, .int p1] : List Value).toArray s = true := hts _ (List.mem_cons_of_mem _ wm_7_21)
  have wd6 : (Cond.fieldLink RX5 52 "ClientMoneyBook$State" "office" "J").before ([.ref a0, .int p1] : List Value).toArray s = true := hts _ (List.mem_cons_of_mem _ wm_2_12)
  have iX5 : ∀ w ∈ u_ws RX5 TX5 13, w ∈ aX5_settleBill := fun w h => List.mem_cons_of_mem _ (inlX5 w h)
  unfold fX5_settleBill at hf
  refine lv_aload_n hx hb dX5_settleBill_0 rfl (lv_at hl 0 rfl) ?_
  refine x_get hx hb (C := RX5) (T := TX5) (N := 13) (ci := 5) hts iX5 hown hK hP 0 rfl rfl 2 (by decide) wd0 rfl (.ref a8) rfl dX5_settleBill_1 ?_
  refine lv_iload_n hx hb dX5_settleBill_4 rfl (lv_at hl 1 rfl) ?_
  obtain ⟨r_1, h_2, hf⟩ := bd1_el hf
  refine x_callVi (As := [.int p1]) (rest := []) ⟨hx, hb, hml, hown, hts⟩ (mX4_find l D cy a8 a9 Bsz Bla Bce p1 r_1 h_2) (cwV 1 hts (gcV_X4_find hbg wm_12_19) rfl rfl rfl kdX4_find ⟨Nat.le_of_ble_eq_true rfl, Nat.le_of_ble_eq_true rfl⟩) (w1 := [(a0, .inr (5, [.ref a1, .ref a6, .ref a8, .ref a10, .int day, .int lim, .int low, .int hig, .int thr, .long off, .long cre, .long rcp, .long pay]))] ++ (wX0 cy a1 a2 a3 a4 a5 Asz Anu Aba Amo Aco ++ (wX4 cy a6 a7 Hsz Hla Hce))) (w2 := wX6 cy a10 a11 Tma Tlc Ttc) (w' := wX5 cy a0 a1 a2 a3 a4 a5 a6 a7 a8 a9 a10 a11 Asz Anu Aba Amo Aco Hsz Hla Hce Bsz Bla Bce Tma Tlc Ttc day lim low hig thr off cre rcp pay) rfl rfl hP hK hD hN hS hA (q0 := 0) rfl rfl rfl rfl hl rfl (Nat.le_of_ble_eq_true rfl) dX5_settleBill_5 ⟨Nat.zero_le _, Nat.zero_le _⟩ (fun H locs hP hD hS => ?_)
  refine lv_istore_n (lv' := [(2, .int r_1), (0, .ref a0), (1, .int p1)]) hx hb dX5_settleBill_8 rfl hl (by decide) rfl (fun ls hl => ?_)
  refine lv_iload_n hx hb dX5_settleBill_9 rfl (lv_at hl 0 rfl) ?_
  refine lv_if_ge (tgt := 15) hx hb dX5_settleBill_10 (by decide) (fun c_3 => ?_) (fun c_3 => ?_)
  · have hf := x_t c_3 hf
    refine lv_aload_n hx hb dX5_settleBill_15 rfl (lv_at hl 1 rfl) ?_
    refine x_get hx hb (C := RX5) (T := TX5) (N := 13) (ci := 5) hts iX5 hown hK hP 0 rfl rfl 2 (by decide) wd0 rfl (.ref a8) rfl dX5_settleBill_16 ?_
    refine lv_iload_n hx hb dX5_settleBill_19 rfl (lv_at hl 0 rfl) ?_
    refine lv_iconst (v := 1) hx hb dX5_settleBill_20 (by decide) ?_
    obtain ⟨r_4, h_5, hf⟩ := bd1_el hf
    refine x_callVi (As := [.int r_1, .int 1]) (rest := []) ⟨hx, hb, hml, hown, hts⟩ (mX4_get l D cy a8 a9 Bsz Bla Bce r_1 1 r_4 h_5) (cwV 2 hts (gcV_X4_get hbg wm_12_23) rfl rfl rfl kdX4_get ⟨Nat.le_of_ble_eq_true rfl, Nat.le_of_ble_eq_true rfl⟩) (w1 := [(a0, .inr (5, [.ref a1, .ref a6, .ref a8, .ref a10, .int day, .int lim, .int low, .int hig, .int thr, .long off, .long cre, .long rcp, .long pay]))] ++ (wX0 cy a1 a2 a3 a4 a5 Asz Anu Aba Amo Aco ++ (wX4 cy a6 a7 Hsz Hla Hce))) (w2 := wX6 cy a10 a11 Tma Tlc Ttc) (w' := wX5 cy a0 a1 a2 a3 a4 a5 a6 a7 a8 a9 a10 a11 Asz Anu Aba Amo Aco Hsz Hla Hce Bsz Bla Bce Tma Tlc Ttc day lim low hig thr off cre rcp pay) rfl rfl hP hK hD hN hS hA (q0 := 0) rfl rfl rfl rfl hl rfl (Nat.le_of_ble_eq_true rfl) dX5_settleBill_21 ⟨Nat.zero_le _, Nat.zero_le _⟩ (fun H locs hP hD hS => ?_)
    refine lv_istore_n (lv' := [(3, .int r_4), (2, .int r_1), (0, .ref a0), (1, .int p1)]) hx hb dX5_settleBill_24 rfl hl (by decide) rfl (fun ls hl => ?_)
    refine lv_aload_n hx hb dX5_settleBill_25 rfl (lv_at hl 2 rfl) ?_
    refine x_get hx hb (C := RX5) (T := TX5) (N := 13) (ci := 5) hts iX5 hown hK hP 0 rfl rfl 0 (by decide) wd1 rfl (.ref a1) rfl dX5_settleBill_26 ?_
    refine lv_iload_n hx hb dX5_settleBill_29 rfl (lv_at hl 0 rfl) ?_
    obtain ⟨r_6, h_7, hf⟩ := bd1_el hf
    refine x_callVi (As := [.int r_4]) (rest := []) ⟨hx, hb, hml, hown, hts⟩ (mX0_find l D cy a1 a2 a3 a4 a5 Asz Anu Aba Amo Aco r_4 r_6 h_7) (cwV 1 hts (gcV_X0_find hbg wm_6_14) rfl rfl rfl kdX0_find ⟨Nat.le_of_ble_eq_true rfl, Nat.le_of_ble_eq_true rfl⟩) (w1 := [(a0, .inr (5, [.ref a1, .ref a6, .ref a8, .ref a10, .int day, .int lim, .int low, .int hig, .int thr, .long off, .long cre, .long rcp, .long pay]))]) (w2 := wX4 cy a6 a7 Hsz Hla Hce ++ (wX4 cy a8 a9 Bsz Bla Bce ++ (wX6 cy a10 a11 Tma Tlc Ttc))) (w' := wX5 cy a0 a1 a2 a3 a4 a5 a6 a7 a8 a9 a10 a11 Asz Anu Aba Amo Aco Hsz Hla Hce Bsz Bla Bce Tma Tlc Ttc day lim low hig thr off cre rcp pay) rfl rfl hP hK hD hN hS hA (q0 := 0) rfl rfl rfl rfl hl rfl (Nat.le_of_ble_eq_true rfl) dX5_settleBill_30 ⟨Nat.zero_le _, Nat.zero_le _⟩ (fun H locs hP hD hS => ?_)
    refine lv_istore (lv' := [(4, .int r_6), (3, .int r_4), (2, .int r_1), (0, .ref a0), (1, .int p1)]) hx hb dX5_settleBill_33 hl (by decide) rfl (fun ls hl => ?_)
    refine lv_aload_n hx hb dX5_settleBill_35 rfl (lv_at hl 3 rfl) ?_
    refine x_get hx hb (C := RX5) (T := TX5) (N := 13) (ci := 5) hts iX5 hown hK hP 0 rfl rfl 2 (by decide) wd0 rfl (.ref a8) rfl dX5_settleBill_36 ?_
    refine lv_iload_n hx hb dX5_settleBill_39 rfl (lv_at hl 2 rfl) ?_
    refine lv_iconst (v := 2) hx hb dX5_settleBill_40 (by decide) ?_
    obtain ⟨r_8, h_9, hf⟩ := bd1_el hf
    refine x_callVi (As := [.int r_1, .int 2]) (rest := []) ⟨hx, hb, hml, hown, hts⟩ (mX4_get l D cy a8 a9 Bsz Bla Bce r_1 2 r_8 h_9) (cwV 2 hts (gcV_X4_get hbg wm_12_23) rfl rfl rfl kdX4_get ⟨Nat.le_of_ble_eq_true rfl, Nat.le_of_ble_eq_true rfl⟩) (w1 := [(a0, .inr (5, [.ref a1, .ref a6, .ref a8, .ref a10, .int day, .int lim, .int low, .int hig, .int thr, .long off, .long cre, .long rcp, .long pay]))] ++ (wX0 cy a1 a2 a3 a4 a5 Asz Anu Aba Amo Aco ++ (wX4 cy a6 a7 Hsz Hla Hce))) (w2 := wX6 cy a10 a11 Tma Tlc Ttc) (w' := wX5 cy a0 a1 a2 a3 a4 a5 a6 a7 a8 a9 a10 a11 Asz Anu Aba Amo Aco Hsz Hla Hce Bsz Bla Bce Tma Tlc Ttc day lim low hig thr off cre rcp pay) rfl rfl hP hK hD hN hS hA (q0 := 0) rfl rfl rfl rfl hl rfl (Nat.le_of_ble_eq_true rfl) dX5_settleBill_41 ⟨Nat.zero_le _, Nat.zero_le _⟩ (fun H locs hP hD hS => ?_)
    refine lv_istore (lv' := [(5, .int r_8), (4, .int r_6), (3, .int r_4), (2, .int r_1), (0, .ref a0), (1, .int p1)]) hx hb dX5_settleBill_44 hl (by decide) rfl (fun ls hl => ?_)
    refine lv_iload hx hb dX5_settleBill_46 (lv_at hl 0 rfl) ?_
    refine lv_aload_n hx hb dX5_settleBill_48 rfl (lv_at hl 4 rfl) ?_
    refine lv_iload hx hb dX5_settleBill_49 (lv_at hl 1 rfl) ?_
    obtain ⟨r_10, h_11, hf⟩ := bd1_el hf
    refine x_callVi (As := [.int r_6]) (rest := [.int r_8]) ⟨hx, hb, hml, hown, hts⟩ (mX5_freeAt l D cy a0 a1 a2 a3 a4 a5 a6 a7 a8 a9 a10 a11 Asz Anu Aba Amo Aco Hsz Hla Hce Bsz Bla Bce Tma Tlc Ttc day lim low hig thr off cre rcp pay r_6 r_10 h_11) (cwV 1 hts (gcV_X5_freeAt hbg wm_10_21) rfl rfl rfl kdX5_freeAt ⟨Nat.le_of_ble_eq_true rfl, Nat.le_of_ble_eq_true rfl⟩) (w1 := []) (w2 := []) (w' := wX5 cy a0 a1 a2 a3 a4 a5 a6 a7 a8 a9 a10 a11 Asz Anu Aba Amo Aco Hsz Hla Hce Bsz Bla Bce Tma Tlc Ttc day lim low hig thr off cre rcp pay) (List.append_nil _) (List.append_nil _) hP hK hD hN hS hA (q0 := 0) rfl rfl rfl rfl hl rfl (Nat.le_of_ble_eq_true rfl) dX5_settleBill_51 ⟨Nat.zero_le _, Nat.zero_le _⟩ (fun H locs hP hD hS => ?_)
    obtain ⟨mn_12, emn_12, hf⟩ := lt_el hf
    refine va_mmin hx hb (hml.trans hl.1.symm) hown wd2 wd3 wd4 wd5 (Nat.le_of_ble_eq_true rfl) (Nat.le_of_ble_eq_true rfl) (Nat.zero_le _) (Nat.zero_le _) dX5_settleBill_54 ?_
    refine x_topi emn_12 ?_
    refine lv_istore (lv' := [(6, .int mn_12), (5, .int r_8), (4, .int r_6), (3, .int r_4), (2, .int r_1), (0, .ref a0), (1, .int p1)]) hx hb dX5_settleBill_57 hl (by decide) rfl (fun ls hl => ?_)
    refine lv_iload hx hb dX5_settleBill_59 (lv_at hl 0 rfl) ?_
    refine lv_if_ne (tgt := 67) hx hb dX5_settleBill_61 (by decide) (fun c_13 => ?_) (fun c_13 => ?_)
    · have hf := x_f c_13 hf
      refine lv_aload_n hx hb dX5_settleBill_67 rfl (lv_at hl 5 rfl) ?_
      refine x_get hx hb (C := RX5) (T := TX5) (N := 13) (ci := 5) hts iX5 hown hK hP 0 rfl rfl 0 (by decide) wd1 rfl (.ref a1) rfl dX5_settleBill_68 ?_
      refine lv_iload hx hb dX5_settleBill_71 (lv_at hl 2 rfl) ?_
      refine lv_iload hx hb dX5_settleBill_73 (lv_at hl 0 rfl) ?_
      refine lv_ineg hx hb dX5_settleBill_75 ?_
      obtain ⟨Aba_14, h_15, hf⟩ := bd1_el hf
      refine x_callVv (As := [.int r_6, .int (-mn_12)]) (rest := []) ⟨hx, hb, hml, hown, hts⟩ (mX0_add l D cy a1 a2 a3 a4 a5 Asz Anu Aba Amo Aco r_6 (-mn_12) Aba_14 h_15) (cwV 2 hts (gcV_X0_add hbg wm_8_17) rfl rfl rfl kdX0_add ⟨Nat.le_of_ble_eq_true rfl, Nat.le_of_ble_eq_true rfl⟩) (w1 := [(a0, .inr (5, [.ref a1, .ref a6, .ref a8, .ref a10, .int day, .int lim, .int low, .int hig, .int thr, .long off, .long cre, .long rcp, .long pay]))]) (w2 := wX4 cy a6 a7 Hsz Hla Hce ++ (wX4 cy a8 a9 Bsz Bla Bce ++ (wX6 cy a10 a11 Tma Tlc Ttc))) (w' := wX5 cy a0 a1 a2 a3 a4 a5 a6 a7 a8 a9 a10 a11 Asz Anu Aba_14 Amo Aco Hsz Hla Hce Bsz Bla Bce Tma Tlc Ttc day lim low hig thr off cre rcp pay) rfl rfl hP hK hD hN hS hA (q0 := 0) rfl rfl rfl rfl hl rfl (Nat.le_of_ble_eq_true rfl) dX5_settleBill_76 ⟨Nat.zero_le _, Nat.zero_le _⟩ (fun H locs hP hD hS => ?_)
      refine lv_aload_n hx hb dX5_settleBill_79 rfl (lv_at hl 5 rfl) ?_
      refine lv_dup hx hb dX5_settleBill_80 rfl ?_
      refine x_get hx hb (C := RX5) (T := TX5) (N := 13) (ci := 5) hts iX5 hown hK hP 0 rfl rfl 9 (by decide) wd6 rfl (.long off) rfl dX5_settleBill_81 ?_
      refine lv_iload hx hb dX5_settleBill_84 (lv_at hl 0 rfl) ?_
      refine lv_i2l (v := mn_12.toInt64) hx hb dX5_settleBill_86 rfl ?_
      refine lv_ladd hx hb dX5_settleBill_87 ?_
      obtain ⟨off_16, eoff_16, hf⟩ := lt_el hf
      refine x_topl eoff_16 ?_
      refine x_put hx hb (C := RX5) (T := TX5) (N := 13) (ci := 5) hts iX5 tyX5 tyX5_ok nmX5 hown hK hP hD hS 0 rfl rfl 9 (by decide) wd6 rfl rfl (ty := .long) rfl rfl rfl (Nat.le_of_ble_eq_true rfl) (w' := wX5 cy a0 a1 a2 a3 a4 a5 a6 a7 a8 a9 a10 a11 Asz Anu Aba_14 Amo Aco Hsz Hla Hce Bsz Bla Bce Tma Tlc Ttc day lim low hig thr off_16 cre rcp pay) rfl dX5_settleBill_88 (fun H locs hP hD hS => ?_)
      refine lv_iload hx hb dX5_settleBill_91 (lv_at hl 0 rfl) ?_
      refine lv_iload hx hb dX5_settleBill_93 (lv_at hl 1 rfl) ?_
      refine lv_icmp_ne (tgt := 109) hx hb dX5_settleBill_95 (by decide) (fun c_17 => ?_) (fun c_17 => ?_)
      · have hf := x_f c_17 hf
        refine lv_aload_n hx hb dX5_settleBill_109 rfl (lv_at hl 5 rfl) ?_
        refine x_get hx hb (C := RX5) (T := TX5) (N := 13) (ci := 5) hts iX5 hown hK hP 0 rfl rfl 2 (by decide) wd0 rfl (.ref a8) rfl dX5_settleBill_110 ?_
        refine lv_iload_n hx hb dX5_settleBill_113 rfl (lv_at hl 4 rfl) ?_
        refine lv_iconst (v := 2) hx hb dX5_settleBill_114 (by decide) ?_
        refine lv_iload hx hb dX5_settleBill_115 (lv_at hl 1 rfl) ?_
        refine lv_iload hx hb dX5_settleBill_117 (lv_at hl 0 rfl) ?_
        refine lv_isub hx hb dX5_settleBill_119 ?_
        obtain ⟨Bce_18, h_19, hf⟩ := bd1_el hf
        refine x_callVv (As := [.int r_1, .int 2, .int (r_8 - mn_12)]) (rest := []) ⟨hx, hb, hml, hown, hts⟩ (mX4_set l D cy a8 a9 Bsz Bla Bce r_1 2 (r_8 - mn_12) Bce_18 h_19) (cwV 3 hts (gcV_X4_set hbg wm_13_21) rfl rfl rfl kdX4_set ⟨Nat.le_of_ble_eq_true rfl, Nat.le_of_ble_eq_true rfl⟩) (w1 := [(a0, .inr (5, [.ref a1, .ref a6, .ref a8, .ref a10, .int day, .int lim, .int low, .int hig, .int thr, .long off_16, .long cre, .long rcp, .long pay]))] ++ (wX0 cy a1 a2 a3 a4 a5 Asz Anu Aba_14 Amo Aco ++ (wX4 cy a6 a7 Hsz Hla Hce))) (w2 := wX6 cy a10 a11 Tma Tlc Ttc) (w' := wX5 cy a0 a1 a2 a3 a4 a5 a6 a7 a8 a9 a10 a11 Asz Anu Aba_14 Amo Aco Hsz Hla Hce Bsz Bla Bce_18 Tma Tlc Ttc day lim low hig thr off_16 cre rcp pay) rfl rfl hP hK hD hN hS hA (q0 := 0) rfl rfl rfl rfl hl rfl (Nat.le_of_ble_eq_true rfl) dX5_settleBill_120 ⟨Nat.zero_le _, Nat.zero_le _⟩ (fun H locs hP hD hS => ?_)
        refine lv_aload_n hx hb dX5_settleBill_123 rfl (lv_at hl 5 rfl) ?_
        refine x_get hx hb (C := RX5) (T := TX5) (N := 13) (ci := 5) hts iX5 hown hK hP 0 rfl rfl 2 (by decide) wd0 rfl (.ref a8) rfl dX5_settleBill_124 ?_
        refine lv_iload_n hx hb dX5_settleBill_127 rfl (lv_at hl 4 rfl) ?_
        refine lv_iconst (v := 3) hx hb dX5_settleBill_128 (by decide) ?_
        refine lv_aload_n hx hb dX5_settleBill_129 rfl (lv_at hl 5 rfl) ?_
        refine x_get hx hb (C := RX5) (T := TX5) (N := 13) (ci := 5) hts iX5 hown hK hP 0 rfl rfl 2 (by decide) wd0 rfl (.ref a8) rfl dX5_settleBill_130 ?_
        refine lv_iload_n hx hb dX5_settleBill_133 rfl (lv_at hl 4 rfl) ?_
        refine lv_iconst (v := 3) hx hb dX5_settleBill_134 (by decide) ?_
        obtain ⟨r_20, h_21, hf⟩ := bd1_el hf
        refine x_callVi (As := [.int r_1, .int 3]) (rest := [.int 3, .int r_1, .ref a8]) ⟨hx, hb, hml, hown, hts⟩ (mX4_get l D cy a8 a9 Bsz Bla Bce_18 r_1 3 r_20 h_21) (cwV 2 hts (gcV_X4_get hbg wm_12_23) rfl rfl rfl kdX4_get ⟨Nat.le_of_ble_eq_true rfl, Nat.le_of_ble_eq_true rfl⟩) (w1 := [(a0, .inr (5, [.ref a1, .ref a6, .ref a8, .ref a10, .int day, .int lim, .int low, .int hig, .int thr, .long off_16, .long cre, .long rcp, .long pay]))] ++ (wX0 cy a1 a2 a3 a4 a5 Asz Anu Aba_14 Amo Aco ++ (wX4 cy a6 a7 Hsz Hla Hce))) (w2 := wX6 cy a10 a11 Tma Tlc Ttc) (w' := wX5 cy a0 a1 a2 a3 a4 a5 a6 a7 a8 a9 a10 a11 Asz Anu Aba_14 Amo Aco Hsz Hla Hce Bsz Bla Bce_18 Tma Tlc Ttc day lim low hig thr off_16 cre rcp pay) rfl rfl hP hK hD hN hS hA (q0 := 0) rfl rfl rfl rfl hl rfl (Nat.le_of_ble_eq_true rfl) dX5_settleBill_135 ⟨Nat.zero_le _, Nat.zero_le _⟩ (fun H locs hP hD hS => ?_)
        refine lv_iload hx hb dX5_settleBill_138 (lv_at hl 0 rfl) ?_
        refine lv_iadd hx hb dX5_settleBill_140 ?_
        obtain ⟨Bce_22, h_23, hf⟩ := bd1_el hf
        refine x_callVv (As := [.int r_1, .int 3, .int (r_20 + mn_12)]) (rest := []) ⟨hx, hb, hml, hown, hts⟩ (mX4_set l D cy a8 a9 Bsz Bla Bce_18 r_1 3 (r_20 + mn_12) Bce_22 h_23) (cwV 3 hts (gcV_X4_set hbg wm_13_21) rfl rfl rfl kdX4_set ⟨Nat.le_of_ble_eq_true rfl, Nat.le_of_ble_eq_true rfl⟩) (w1 := [(a0, .inr (5, [.ref a1, .ref a6, .ref a8, .ref a10, .int day, .int lim, .int low, .int hig, .int thr, .long off_16, .long cre, .long rcp, .long pay]))] ++ (wX0 cy a1 a2 a3 a4 a5 Asz Anu Aba_14 Amo Aco ++ (wX4 cy a6 a7 Hsz Hla Hce))) (w2 := wX6 cy a10 a11 Tma Tlc Ttc) (w' := wX5 cy a0 a1 a2 a3 a4 a5 a6 a7 a8 a9 a10 a11 Asz Anu Aba_14 Amo Aco Hsz Hla Hce Bsz Bla Bce_22 Tma Tlc Ttc day lim low hig thr off_16 cre rcp pay) rfl rfl hP hK hD hN hS hA (q0 := 0) rfl rfl rfl rfl hl rfl (Nat.le_of_ble_eq_true rfl) dX5_settleBill_141 ⟨Nat.zero_le _, Nat.zero_le _⟩ (fun H locs hP hD hS => ?_)
        refine lv_aload_n hx hb dX5_settleBill_144 rfl (lv_at hl 5 rfl) ?_
        refine lv_iconst (v := 4) hx hb dX5_settleBill_145 (by decide) ?_
        refine lv_iload_n hx hb dX5_settleBill_146 rfl (lv_at hl 3 rfl) ?_
        refine lv_iconst (v := 0) hx hb dX5_settleBill_147 (by decide) ?_
        refine lv_iload hx hb dX5_settleBill_148 (lv_at hl 0 rfl) ?_
        obtain ⟨Amo_24, Tma_25, Tlc_26, Ttc_27, h_28, hf⟩ := bd4_el hf
        refine x_callVv (As := [.int 4, .int r_4, .int 0, .int mn_12]) (rest := []) ⟨hx, hb, hml, hown, hts⟩ (mX5_enter l D cy a0 a1 a2 a3 a4 a5 a6 a7 a8 a9 a10 a11 Asz Anu Aba_14 Amo Aco Hsz Hla Hce Bsz Bla Bce_22 Tma Tlc Ttc day lim low hig thr off_16 cre rcp pay 4 r_4 0 mn_12 Amo_24 Tma_25 Tlc_26 Ttc_27 h_28) (cwV 4 hts (gcV_X5_enter hbg wm_8_21) rfl rfl rfl kdX5_enter ⟨Nat.le_of_ble_eq_true rfl, Nat.le_of_ble_eq_true rfl⟩) (w1 := []) (w2 := []) (w' := wX5 cy a0 a1 a2 a3 a4 a5 a6 a7 a8 a9 a10 a11 Asz Anu Aba_14 Amo_24 Aco Hsz Hla Hce Bsz Bla Bce_22 Tma_25 Tlc_26 Ttc_27 day lim low hig thr off_16 cre rcp pay) (List.append_nil _) (List.append_nil _) hP hK hD hN hS hA (q0 := 0) rfl rfl rfl rfl hl rfl (Nat.le_of_ble_eq_true rfl) dX5_settleBill_150 ⟨Nat.zero_le _, Nat.zero_le _⟩ (fun H locs hP hD hS => ?_)
        refine lv_iload hx hb dX5_settleBill_153 (lv_at hl 0 rfl) ?_
        have hf := Option.some.inj hf
        cases hf
        exact x_iret hx hb hr hlocks hK hP hD hS dX5_settleBill_155
      · have hf := x_t c_17 hf
        refine lv_aload_n hx hb dX5_settleBill_98 rfl (lv_at hl 5 rfl) ?_
        refine x_get hx hb (C := RX5) (T := TX5) (N := 13) (ci := 5) hts iX5 hown hK hP 0 rfl rfl 2 (by decide) wd0 rfl (.ref a8) rfl dX5_settleBill_99 ?_
        refine lv_iload_n hx hb dX5_settleBill_102 rfl (lv_at hl 4 rfl) ?_
        obtain ⟨Bsz_29, Bce_30, h_31, hf⟩ := bd2_el hf
        refine x_callVv (As := [.int r_1]) (rest := []) ⟨hx, hb, hml, hown, hts⟩ (mX4_remove l D cy a8 a9 Bsz Bla Bce r_1 Bsz_29 Bce_30 h_31) (cwV 1 hts (gcV_X4_remove hbg wm_13_0) rfl rfl rfl kdX4_remove ⟨Nat.le_of_ble_eq_true rfl, Nat.le_of_ble_eq_true rfl⟩) (w1 := [(a0, .inr (5, [.ref a1, .ref a6, .ref a8, .ref a10, .int day, .int lim, .int low, .int hig, .int thr, .long off_16, .long cre, .long rcp, .long pay]))] ++ (wX0 cy a1 a2 a3 a4 a5 Asz Anu Aba_14 Amo Aco ++ (wX4 cy a6 a7 Hsz Hla Hce))) (w2 := wX6 cy a10 a11 Tma Tlc Ttc) (w' := wX5 cy a0 a1 a2 a3 a4 a5 a6 a7 a8 a9 a10 a11 Asz Anu Aba_14 Amo Aco Hsz Hla Hce Bsz_29 Bla Bce_30 Tma Tlc Ttc day lim low hig thr off_16 cre rcp pay) rfl rfl hP hK hD hN hS hA (q0 := 0) rfl rfl rfl rfl hl rfl (Nat.le_of_ble_eq_true rfl) dX5_settleBill_103 ⟨Nat.zero_le _, Nat.zero_le _⟩ (fun H locs hP hD hS => ?_)
        refine lv_goto (tgt := 144) hx hb dX5_settleBill_106 (by decide) ?_
        refine lv_aload_n hx hb dX5_settleBill_144 rfl (lv_at hl 5 rfl) ?_
        refine lv_iconst (v := 4) hx hb dX5_settleBill_145 (by decide) ?_
        refine lv_iload_n hx hb dX5_settleBill_146 rfl (lv_at hl 3 rfl) ?_
        refine lv_iconst (v := 0) hx hb dX5_settleBill_147 (by decide) ?_
        refine lv_iload hx hb dX5_settleBill_148 (lv_at hl 0 rfl) ?_
        obtain ⟨Amo_32, Tma_33, Tlc_34, Ttc_35, h_36, hf⟩ := bd4_el hf
        refine x_callVv (As := [.int 4, .int r_4, .int 0, .int mn_12]) (rest := []) ⟨hx, hb, hml, hown, hts⟩ (mX5_enter l D cy a0 a1 a2 a3 a4 a5 a6 a7 a8 a9 a10 a11 Asz Anu Aba_14 Amo Aco Hsz Hla Hce Bsz_29 Bla Bce_30 Tma Tlc Ttc day lim low hig thr off_16 cre rcp pay 4 r_4 0 mn_12 Amo_32 Tma_33 Tlc_34 Ttc_35 h_36) (cwV 4 hts (gcV_X5_enter hbg wm_8_21) rfl rfl rfl kdX5_enter ⟨Nat.le_of_ble_eq_true rfl, Nat.le_of_ble_eq_true rfl⟩) (w1 := []) (w2 := []) (w' := wX5 cy a0 a1 a2 a3 a4 a5 a6 a7 a8 a9 a10 a11 Asz Anu Aba_14 Amo_32 Aco Hsz Hla Hce Bsz_29 Bla Bce_30 Tma_33 Tlc_34 Ttc_35 day lim low hig thr off_16 cre rcp pay) (List.append_nil _) (List.append_nil _) hP hK hD hN hS hA (q0 := 0) rfl rfl rfl rfl hl rfl (Nat.le_of_ble_eq_true rfl) dX5_settleBill_150 ⟨Nat.zero_le _, Nat.zero_le _⟩ (fun H locs hP hD hS => ?_)
        refine lv_iload hx hb dX5_settleBill_153 (lv_at hl 0 rfl) ?_
        have hf := Option.some.inj hf
        cases hf
        exact x_iret hx hb hr hlocks hK hP hD hS dX5_settleBill_155
    · have hf := x_t c_13 hf
      refine lv_bipush (v := (-3)) hx hb dX5_settleBill_64 (by decide) ?_
      have hf := Option.some.inj hf
      cases hf
      exact x_iret hx hb hr hlocks hK hP hD hS dX5_settleBill_66
  · have hf := x_f c_3 hf
    refine lv_iconst (v := (-1)) hx hb dX5_settleBill_13 (by decide) ?_
    have hf := Option.some.inj hf
    cases hf
    exact x_iret hx hb hr hlocks hK hP hD hS dX5_settleBill_14
theorem kdX5_growthPerDay : yX5_growthPerDay.cls = RX5 ∧ yX5_growthPerDay.cls ≠ "java/lang/invoke/MethodHandle" ∧ yX5_growthPerDay.cls ≠ "java/lang/invoke/VarHandle" ∧ (parseMethodDescriptor yX5_growthPerDay.desc).map (fun d => d.parameters.length) = some 1 := by decide +kernel
def rmX5_growthPerDay : Room := { frames := 1, cells := 0, slots := 0, locals := 23 }
set_option maxHeartbeats 4000000 in
set_option maxRecDepth 100000 in
theorem mX5_growthPerDay (l : Launch) (D : va_G) (cy : Nat → ClassId) (a0 a1 a2 a3 a4 a5 a6 a7 a8 a9 a10 a11 : Nat) (Asz : Int32) (Anu : Nat → Int32) (Aba : Nat → Int32) (Amo : Nat → Int32) (Aco : Nat → Int64) (Hsz : Int32) (Hla : Int32) (Hce : Nat → Int32) (Bsz : Int32) (Bla : Int32) (Bce : Nat → Int32) (Tma : Int32) (Tlc : Int32) (Ttc : Nat → Int32) (day : Int32) (lim : Int32) (low : Int32) (hig : Int32) (thr : Int32) (off : Int64) (cre : Int64) (rcp : Int64) (pay : Int64) (p1 : Int32) (r : Int64) (hf : fX5_growthPerDay lim low hig p1 = some r) : xMl l D cy yX5_growthPerDay aX5_growthPerDay rmX5_growthPerDay ([.ref a0, .int p1] : List Value) (wX5 cy a0 a1 a2 a3 a4 a5 a6 a7 a8 a9 a10 a11 Asz Anu Aba Amo Aco Hsz Hla Hce Bsz Bla Bce Tma Tlc Ttc day lim low hig thr off cre rcp pay) (wX5 cy a0 a1 a2 a3 a4 a5 a6 a7 a8 a9 a10 a11 Asz Anu Aba Amo Aco Hsz Hla Hce Bsz Bla Bce Tma Tlc Ttc day lim low hig thr off cre rcp pay) r := by
  intro hz
  refine x_start (Qc := xQl D cy _ r) (cc := cX5_growthPerDay) (maxL := 4) (ret := (some .long)) (by decide) rfl (Nat.le_of_ble_eq_true rfl) (lv := [(0, .ref a0), (1, .int p1)]) rfl ?_
  intro p e s m below meth c ls A hx hb hr hml hown hts hlocks hK hP hD hS hA hN hl
  have hown : s.vm.findClass RX5 = some m.cls := hown
  have hbg : ∀ w ∈ wsL_law, w ∈ aX5_growthPerDay := fun w h => List.mem_cons_of_mem _ h
  have wd0 : (Cond.fieldLink RX5 40 "ClientMoneyBook$State" "limit" "I").before ([.ref a0, .int p1] : List Value).toArray s = true := hts _ (List.mem_cons_of_mem _ wm_2_8)
  have wd1 : (Cond.methodLink RX5 122 Lib.Math.min.name).before ([.ref a0, .int p1] : List Value).toArray s = true := hts _ (List.mem_cons_of_mem _ wm_13_20)
  have wd2 : (Cond.static Lib.Math.min.name).before ([.ref a0, .int p1] : List Value).toArray s = true := hts _ (List.mem_cons_of_mem _ wm_7_19)
  have wd3 : (Cond.initialized "java/lang/Math").before ([.ref a0, .int p1] : List Value).toArray s = true := hts _ (List.mem_cons_of_mem _ wm_7_20)
  have wd4 : (Cond.code Lib.Math.min.name Lib.Math.min.code 2 (some .int)).before ([.ref a0, .int p1] : List Value).toArray s = true := hts _ (List.mem_cons_of_mem _ wm_7_21)
  have wd5 : (Cond.fieldLink RX5 43 "ClientMoneyBook$State" "low" "I").before ([.ref a0, .int p1] : List Value).toArray s = true := hts _ (List.mem_cons_of_mem _ wm_2_9)
  have wd6 : (Cond.fieldLink RX5 46 "ClientMoneyBook$State" "high" "I").before ([.ref a0, .int p1] : List Value).toArray s = true := hts _ (List.mem_cons_of_mem _ wm_2_10)
  have iX5 : ∀ w ∈ u_ws RX5 TX5 13, w ∈ aX5_growthPerDay := fun w h => List.mem_cons_of_mem _ (inlX5 w h)
  unfold fX5_growthPerDay at hf
  refine lv_iload_n hx hb dX5_growthPerDay_0 rfl (lv_at hl 1 rfl) ?_
  refine lv_aload_n hx hb dX5_growthPerDay_1 rfl (lv_at hl 0 rfl) ?_
  refine x_get hx hb (C := RX5) (T := TX5) (N := 13) (ci := 5) hts iX5 hown hK hP 0 rfl rfl 5 (by decide) wd0 rfl (.int lim) rfl dX5_growthPerDay_2 ?_
  obtain ⟨mn_1, emn_1, hf⟩ := lt_el hf
  refine va_mmin hx hb (hml.trans hl.1.symm) hown wd1 wd2 wd3 wd4 (Nat.le_of_ble_eq_true rfl) (Nat.le_of_ble_eq_true rfl) (Nat.zero_le _) (Nat.zero_le _) dX5_growthPerDay_5 ?_
  refine x_topi emn_1 ?_
  refine lv_i2l (v := mn_1.toInt64) hx hb dX5_growthPerDay_8 rfl ?_
  refine lv_lstore_n (lv' := [(2, .long mn_1.toInt64), (0, .ref a0), (1, .int p1)]) hx hb dX5_growthPerDay_9 rfl hl (by decide) rfl (fun ls hl => ?_)
  refine lv_aload_n hx hb dX5_growthPerDay_10 rfl (lv_at hl 1 rfl) ?_
  refine x_get hx hb (C := RX5) (T := TX5) (N := 13) (ci := 5) hts iX5 hown hK hP 0 rfl rfl 6 (by decide) wd5 rfl (.int low) rfl dX5_growthPerDay_11 ?_
  refine lv_i2l (v := low.toInt64) hx hb dX5_growthPerDay_14 rfl ?_
  refine lv_lload_n hx hb dX5_growthPerDay_15 rfl (lv_at hl 0 rfl) ?_
  refine lv_lmul hx hb dX5_growthPerDay_16 ?_
  refine lv_aload_n hx hb dX5_growthPerDay_17 rfl (lv_at hl 1 rfl) ?_
  refine x_get hx hb (C := RX5) (T := TX5) (N := 13) (ci := 5) hts iX5 hown hK hP 0 rfl rfl 7 (by decide) wd6 rfl (.int hig) rfl dX5_growthPerDay_18 ?_
  refine lv_i2l (v := hig.toInt64) hx hb dX5_growthPerDay_21 rfl ?_
  refine lv_iload_n hx hb dX5_growthPerDay_22 rfl (lv_at hl 2 rfl) ?_
  refine lv_i2l (v := p1.toInt64) hx hb dX5_growthPerDay_23 rfl ?_
  refine lv_lload_n hx hb dX5_growthPerDay_24 rfl (lv_at hl 0 rfl) ?_
  refine lv_lsub hx hb dX5_growthPerDay_25 ?_
  refine lv_lmul hx hb dX5_growthPerDay_26 ?_
  refine lv_ladd hx hb dX5_growthPerDay_27 ?_
  have hf := Option.some.inj hf
  cases hf
  exact x_lret hx hb hr hlocks hK hP hD hS dX5_growthPerDay_28
theorem kdX5_growUntil : yX5_growUntil.cls = RX5 ∧ yX5_growUntil.cls ≠ "java/lang/invoke/MethodHandle" ∧ yX5_growUntil.cls ≠ "java/lang/invoke/VarHandle" ∧ (parseMethodDescriptor yX5_growUntil.desc).map (fun d => d.parameters.length) = some 1 := by decide +kernel
def rmX5_growUntil : Room := { frames := 2, cells := 0, slots := 0, locals := 46 }
set_option maxHeartbeats 4000000 in
set_option maxRecDepth 100000 in
theorem mX5_growUntil (l : Launch) (D : va_G) (cy : Nat → ClassId) (a0 a1 a2 a3 a4 a5 a6 a7 a8 a9 a10 a11 : Nat) (Asz : Int32) (Anu : Nat → Int32) (Aba : Nat → Int32) (Amo : Nat → Int32) (Aco : Nat → Int64) (Hsz : Int32) (Hla : Int32) (Hce : Nat → Int32) (Bsz : Int32) (Bla : Int32) (Bce : Nat → Int32) (Tma : Int32) (Tlc : Int32) (Ttc : Nat → Int32) (day : Int32) (lim : Int32) (low : Int32) (hig : Int32) (thr : Int32) (off : Int64) (cre : Int64) (rcp : Int64) (pay : Int64) (p1 : Int32) (Aco' : Nat → Int64) (day' : Int32) (hf : fX5_growUntil Asz Aba Aco day lim low hig p1 = some (Aco', day')) : xMv l D cy yX5_growUntil aX5_growUntil rmX5_growUntil ([.ref a0, .int p1] : List Value) (wX5 cy a0 a1 a2 a3 a4 a5 a6 a7 a8 a9 a10 a11 Asz Anu Aba Amo Aco Hsz Hla Hce Bsz Bla Bce Tma Tlc Ttc day lim low hig thr off cre rcp pay) (wX5 cy a0 a1 a2 a3 a4 a5 a6 a7 a8 a9 a10 a11 Asz Anu Aba Amo Aco' Hsz Hla Hce Bsz Bla Bce Tma Tlc Ttc day' lim low hig thr off cre rcp pay) := by
  intro hz
  refine x_start (Qc := xQv D cy _) (cc := cX5_growUntil) (maxL := 3) (ret := none) (by decide) rfl (Nat.le_of_ble_eq_true rfl) (lv := [(0, .ref a0), (1, .int p1)]) rfl ?_
  intro p e s m below meth c ls A hx hb hr hml hown hts hlocks hK hP hD hS hA hN hl
  have hown : s.vm.findClass RX5 = some m.cls := hown
  have hbg : ∀ w ∈ wsL_law, w ∈ aX5_growUntil := fun w h => List.mem_cons_of_mem _ h
  have wd0 : (Cond.fieldLink RX5 12 "ClientMoneyBook$State" "accounts" "LClientMoneyBook$Accounts;").before ([.ref a0, .int p1] : List Value).toArray s = true := hts _ (List.mem_cons_of_mem _ wm_1_20)
  have wd1 : (Cond.fieldLink RX5 80 "ClientMoneyBook$Accounts" "size" "I").before ([.ref a0, .int p1] : List Value).toArray s = true := hts _ (List.mem_cons_of_mem _ wm_6_13)
  have wd2 : (Cond.fieldLink RX5 35 "ClientMoneyBook$State" "day" "I").before ([.ref a0, .int p1] : List Value).toArray s = true := hts _ (List.mem_cons_of_mem _ wm_2_6)
  have iX0 : ∀ w ∈ u_ws RX0 TX0 5, w ∈ aX5_growUntil := fun w h => List.mem_cons_of_mem _ (inlX0 w h)
  have iX5 : ∀ w ∈ u_ws RX5 TX5 13, w ∈ aX5_growUntil := fun w h => List.mem_cons_of_mem _ (inlX5 w h)
  unfold fX5_growUntil at hf
  refine lv_iconst (v := 0) hx hb dX5_growUntil_0 (by decide) ?_
  refine lv_istore_n (lv' := [(2, .int 0), (0, .ref a0), (1, .int p1)]) hx hb dX5_growUntil_1 rfl hl (by decide) rfl (fun ls hl => ?_)
  have hL_2 : ∀ (n : Nat) (Aco_9 : Nat → Int64) (z2_10 : Int32) (o : (Nat → Int64)) (H : Heap) (locs : List Loc) (ls : Array Slot), fX5_growUntil_L2 Asz Aba day lim low hig p1 n Aco_9 z2_10 = some o → va_P D vwCl (wX5 cy a0 a1 a2 a3 a4 a5 a6 a7 a8 a9 a10 a11 Asz Anu Aba Amo Aco_9 Hsz Hla Hce Bsz Bla Bce Tma Tlc Ttc day lim low hig thr off cre rcp pay) H → va_D A (wX5 cy a0 a1 a2 a3 a4 a5 a6 a7 a8 a9 a10 a11 Asz Anu Aba Amo Aco_9 Hsz Hla Hce Bsz Bla Bce Tma Tlc Ttc day lim low hig thr off cre rcp pay) → va_S A s.heap H locs → lv_has ls 3 [(0, .ref a0), (1, .int p1), (2, .int z2_10)] → True → ((∀ (Aco_11 : Nat → Int64) , o = Aco_11 → ∀ (H : Heap) (locs : List Loc) (ls : Array Slot), va_P D vwCl (wX5 cy a0 a1 a2 a3 a4 a5 a6 a7 a8 a9 a10 a11 Asz Anu Aba Amo Aco_11 Hsz Hla Hce Bsz Bla Bce Tma Tlc Ttc day lim low hig thr off cre rcp pay) H → va_D A (wX5 cy a0 a1 a2 a3 a4 a5 a6 a7 a8 a9 a10 a11 Asz Anu Aba Amo Aco_11 Hsz Hla Hce Bsz Bla Bce Tma Tlc Ttc day lim low hig thr off cre rcp pay) → va_S A s.heap H locs → lv_has ls 3 [(0, .ref a0), (1, .int p1)] →  W p l e rmX5_growUntil s m ([.ref a0, .int p1] : List Value).toArray below meth c H locs 0 0 (MQ below (xQv D cy (wX5 cy a0 a1 a2 a3 a4 a5 a6 a7 a8 a9 a10 a11 Asz Anu Aba Amo Aco' Hsz Hla Hce Bsz Bla Bce Tma Tlc Ttc day' lim low hig thr off cre rcp pay) A) ([.ref a0, .int p1] : List Value).toArray s 0 0 A) (F0 m 47 ls []))) → W p l e rmX5_growUntil s m ([.ref a0, .int p1] : List Value).toArray below meth c H locs 0 0 (MQ below (xQv D cy (wX5 cy a0 a1 a2 a3 a4 a5 a6 a7 a8 a9 a10 a11 Asz Anu Aba Amo Aco' Hsz Hla Hce Bsz Bla Bce Tma Tlc Ttc day' lim low hig thr off cre rcp pay) A) ([.ref a0, .int p1] : List Value).toArray s 0 0 A) (F0 m 2 ls []) := by
    intro n
    induction n with
    | zero =>
      intro Aco_9 z2_10 o_2 H locs ls hf
      rw [fX5_growUntil_L2] at hf
      cases hf
    | succ n ih =>
      intro Aco_9 z2_10 o_2 H locs ls hf hP hD hS hl hr_2 kx_2
      rw [fX5_growUntil_L2] at hf
      refine lv_iload_n hx hb dX5_growUntil_2 rfl (lv_at hl 2 rfl) ?_
      refine lv_aload_n hx hb dX5_growUntil_3 rfl (lv_at hl 0 rfl) ?_
      refine x_get hx hb (C := RX5) (T := TX5) (N := 13) (ci := 5) hts iX5 hown hK hP 0 rfl rfl 0 (by decide) wd0 rfl (.ref a1) rfl dX5_growUntil_4 ?_
      refine x_get hx hb (C := RX0) (T := TX0) (N := 5) (ci := 0) hts iX0 hown hK hP 1 rfl rfl 0 (by decide) wd1 rfl (.int Asz) rfl dX5_growUntil_7 ?_
      refine lv_icmp_ge (tgt := 47) hx hb dX5_growUntil_10 (by decide) (fun c_12 => ?_) (fun c_12 => ?_)
      · have hf := x_t c_12 hf
        exact kx_2 Aco_9 (Option.some.inj hf).symm _ _ _ hP hD hS (lv_sub hl [0, 1] rfl)
      · have hf := x_f c_12 hf
        refine lv_aload_n hx hb dX5_growUntil_13 rfl (lv_at hl 0 rfl) ?_
        refine x_get hx hb (C := RX5) (T := TX5) (N := 13) (ci := 5) hts iX5 hown hK hP 0 rfl rfl 0 (by decide) wd0 rfl (.ref a1) rfl dX5_growUntil_14 ?_
        refine lv_iload_n hx hb dX5_growUntil_17 rfl (lv_at hl 2 rfl) ?_
        refine lv_aload_n hx hb dX5_growUntil_18 rfl (lv_at hl 0 rfl) ?_
        refine lv_aload_n hx hb dX5_growUntil_19 rfl (lv_at hl 0 rfl) ?_
        refine x_get hx hb (C := RX5) (T := TX5) (N := 13) (ci := 5) hts iX5 hown hK hP 0 rfl rfl 0 (by decide) wd0 rfl (.ref a1) rfl dX5_growUntil_20 ?_
        refine lv_iload_n hx hb dX5_growUntil_23 rfl (lv_at hl 2 rfl) ?_
        obtain ⟨r_13, h_14, hf⟩ := bd1_el hf
        refine x_callVi (As := [.int z2_10]) (rest := [.ref a0, .int z2_10, .ref a1]) ⟨hx, hb, hml, hown, hts⟩ (mX0_balanceAt l D cy a1 a2 a3 a4 a5 Asz Anu Aba Amo Aco_9 z2_10 r_13 h_14) (cwV 1 hts (gcV_X0_balanceAt hbg wm_8_13) rfl rfl rfl kdX0_balanceAt ⟨Nat.le_of_ble_eq_true rfl, Nat.le_of_ble_eq_true rfl⟩) (w1 := [(a0, .inr (5, [.ref a1, .ref a6, .ref a8, .ref a10, .int day, .int lim, .int low, .int hig, .int thr, .long off, .long cre, .long rcp, .long pay]))]) (w2 := wX4 cy a6 a7 Hsz Hla Hce ++ (wX4 cy a8 a9 Bsz Bla Bce ++ (wX6 cy a10 a11 Tma Tlc Ttc))) (w' := wX5 cy a0 a1 a2 a3 a4 a5 a6 a7 a8 a9 a10 a11 Asz Anu Aba Amo Aco_9 Hsz Hla Hce Bsz Bla Bce Tma Tlc Ttc day lim low hig thr off cre rcp pay) rfl rfl hP hK hD hN hS hA (q0 := 0) rfl rfl rfl rfl hl rfl (Nat.le_of_ble_eq_true rfl) dX5_growUntil_24 ⟨Nat.zero_le _, Nat.zero_le _⟩ (fun H locs hP hD hS => ?_)
        obtain ⟨r_15, h_16, hf⟩ := bd1_el hf
        refine x_callVl (As := [.int r_13]) (rest := [.int z2_10, .ref a1]) ⟨hx, hb, hml, hown, hts⟩ (mX5_growthPerDay l D cy a0 a1 a2 a3 a4 a5 a6 a7 a8 a9 a10 a11 Asz Anu Aba Amo Aco_9 Hsz Hla Hce Bsz Bla Bce Tma Tlc Ttc day lim low hig thr off cre rcp pay r_13 r_15 h_16) (cwV 1 hts (gcV_X5_growthPerDay hbg wm_14_19) rfl rfl rfl kdX5_growthPerDay ⟨Nat.le_of_ble_eq_true rfl, Nat.le_of_ble_eq_true rfl⟩) (w1 := []) (w2 := []) (w' := wX5 cy a0 a1 a2 a3 a4 a5 a6 a7 a8 a9 a10 a11 Asz Anu Aba Amo Aco_9 Hsz Hla Hce Bsz Bla Bce Tma Tlc Ttc day lim low hig thr off cre rcp pay) (List.append_nil _) (List.append_nil _) hP hK hD hN hS hA (q0 := 0) rfl rfl rfl rfl hl rfl (Nat.le_of_ble_eq_true rfl) dX5_growUntil_27 ⟨Nat.zero_le _, Nat.zero_le _⟩ (fun H locs hP hD hS => ?_)
        refine lv_iload_n hx hb dX5_growUntil_30 rfl (lv_at hl 1 rfl) ?_
        refine lv_aload_n hx hb dX5_growUntil_31 rfl (lv_at hl 0 rfl) ?_
        refine x_get hx hb (C := RX5) (T := TX5) (N := 13) (ci := 5) hts iX5 hown hK hP 0 rfl rfl 4 (by decide) wd2 rfl (.int day) rfl dX5_growUntil_32 ?_
        refine lv_isub hx hb dX5_growUntil_35 ?_
        refine lv_i2l (v := (p1 - day).toInt64) hx hb dX5_growUntil_36 rfl ?_
        refine lv_lmul hx hb dX5_growUntil_37 ?_
        obtain ⟨Aco_17, h_18, hf⟩ := bd1_el hf
        refine x_callVv (As := [.int z2_10, .long (r_15 * (p1 - day).toInt64)]) (rest := []) ⟨hx, hb, hml, hown, hts⟩ (mX0_addCount l D cy a1 a2 a3 a4 a5 Asz Anu Aba Amo Aco_9 z2_10 (r_15 * (p1 - day).toInt64) Aco_17 h_18) (cwV 2 hts (gcV_X0_addCount hbg wm_16_9) rfl rfl rfl kdX0_addCount ⟨Nat.le_of_ble_eq_true rfl, Nat.le_of_ble_eq_true rfl⟩) (w1 := [(a0, .inr (5, [.ref a1, .ref a6, .ref a8, .ref a10, .int day, .int lim, .int low, .int hig, .int thr, .long off, .long cre, .long rcp, .long pay]))]) (w2 := wX4 cy a6 a7 Hsz Hla Hce ++ (wX4 cy a8 a9 Bsz Bla Bce ++ (wX6 cy a10 a11 Tma Tlc Ttc))) (w' := wX5 cy a0 a1 a2 a3 a4 a5 a6 a7 a8 a9 a10 a11 Asz Anu Aba Amo Aco_17 Hsz Hla Hce Bsz Bla Bce Tma Tlc Ttc day lim low hig thr off cre rcp pay) rfl rfl hP hK hD hN hS hA (q0 := 0) rfl rfl rfl rfl hl rfl (Nat.le_of_ble_eq_true rfl) dX5_growUntil_38 ⟨Nat.zero_le _, Nat.zero_le _⟩ (fun H locs hP hD hS => ?_)
        refine lv_iinc (v := (z2_10 + 1)) (lv' := [(2, .int (z2_10 + 1)), (0, .ref a0), (1, .int p1)]) hx hb dX5_growUntil_41 hl (k := 2) rfl rfl (by decide) rfl (fun ls hl => ?_)
        refine lv_goto (tgt := 2) hx hb dX5_growUntil_44 (by decide) ?_
        exact ih Aco_17 (z2_10 + 1) _ _ _ _ hf hP hD hS (lv_sub hl [1, 2, 0] rfl) hr_2 kx_2
  obtain ⟨Aco_8, h1_2, hf⟩ := bd1_el hf
  refine hL_2 2147483648 Aco 0 _ _ _ _ h1_2 hP hD hS (lv_sub hl [1, 2, 0] rfl) trivial (fun Aco_89 ho H locs ls hP hD hS hl => ?_)
  cases ho
  refine lv_aload_n hx hb dX5_growUntil_47 rfl (lv_at hl 0 rfl) ?_
  refine lv_iload_n hx hb dX5_growUntil_48 rfl (lv_at hl 1 rfl) ?_
  refine x_put hx hb (C := RX5) (T := TX5) (N := 13) (ci := 5) hts iX5 tyX5 tyX5_ok nmX5 hown hK hP hD hS 0 rfl rfl 4 (by decide) wd2 rfl rfl (ty := .int) rfl rfl rfl (Nat.le_of_ble_eq_true rfl) (w' := wX5 cy a0 a1 a2 a3 a4 a5 a6 a7 a8 a9 a10 a11 Asz Anu Aba Amo Aco_8 Hsz Hla Hce Bsz Bla Bce Tma Tlc Ttc p1 lim low hig thr off cre rcp pay) rfl dX5_growUntil_49 (fun H locs hP hD hS => ?_)
  have hf := Option.some.inj hf
  cases hf
  exact x_vret hx hb hr hlocks hK hP hD hS dX5_growUntil_52
theorem kdX5_interestToCredit : yX5_interestToCredit.cls = RX5 ∧ yX5_interestToCredit.cls ≠ "java/lang/invoke/MethodHandle" ∧ yX5_interestToCredit.cls ≠ "java/lang/invoke/VarHandle" ∧ (parseMethodDescriptor yX5_interestToCredit.desc).map (fun d => d.parameters.length) = some 2 := by decide +kernel
def rmX5_interestToCredit : Room := { frames := 1, cells := 0, slots := 0, locals := 23 }
set_option maxHeartbeats 4000000 in
set_option maxRecDepth 100000 in
theorem mX5_interestToCredit (l : Launch) (D : va_G) (cy : Nat → ClassId) (a0 a1 a2 a3 a4 a5 a6 a7 a8 a9 a10 a11 : Nat) (Asz : Int32) (Anu : Nat → Int32) (Aba : Nat → Int32) (Amo : Nat → Int32) (Aco : Nat → Int64) (Hsz : Int32) (Hla : Int32) (Hce : Nat → Int32) (Bsz : Int32) (Bla : Int32) (Bce : Nat → Int32) (Tma : Int32) (Tlc : Int32) (Ttc : Nat → Int32) (day : Int32) (lim : Int32) (low : Int32) (hig : Int32) (thr : Int32) (off : Int64) (cre : Int64) (rcp : Int64) (pay : Int64) (p1 : Int32) (p2 : Int64) (r : Int32) (hf : fX5_interestToCredit thr p1 p2 = some r) : xMi l D cy yX5_interestToCredit aX5_interestToCredit rmX5_interestToCredit ([.ref a0, .int p1, .long p2] : List Value) (wX5 cy a0 a1 a2 a3 a4 a5 a6 a7 a8 a9 a10 a11 Asz Anu Aba Amo Aco Hsz Hla Hce Bsz Bla Bce Tma Tlc Ttc day lim low hig thr off cre rcp pay) (wX5 cy a0 a1 a2 a3 a4 a5 a6 a7 a8 a9 a10 a11 Asz Anu Aba Amo Aco Hsz Hla Hce Bsz Bla Bce Tma Tlc Ttc day lim low hig thr off cre rcp pay) r := by
  intro hz
  refine x_start (Qc := xQi D cy _ r) (cc := cX5_interestToCredit) (maxL := 6) (ret := (some .int)) (by decide) rfl (Nat.le_of_ble_eq_true rfl) (lv := [(0, .ref a0), (1, .int p1), (2, .long p2)]) rfl ?_
  intro p e s m below meth c ls A hx hb hr hml hown hts hlocks hK hP hD hS hA hN hl
  have hown : s.vm.findClass RX5 = some m.cls := hown
  have hbg : ∀ w ∈ wsL_law, w ∈ aX5_interestToCredit := fun w h => List.mem_cons_of_mem _ h
  have wd0 : (Cond.constantLong RX5 167 (3650000)).before ([.ref a0, .int p1, .long p2] : List Value).toArray s = true := hts _ (List.mem_cons_of_mem _ wm_14_12)
  have wd1 : (Cond.constant RX5 75 (1000000000)).before ([.ref a0, .int p1, .long p2] : List Value).toArray s = true := hts _ (List.mem_cons_of_mem _ wm_8_9)
  have wd2 : (Cond.methodLink RX5 171 Lib.MathLoose.min_long.x).before ([.ref a0, .int p1, .long p2] : List Value).toArray s = true := hts _ (List.mem_cons_of_mem _ wm_15_3)
  have wd3 : (Cond.static Lib.MathLoose.min_long.x).before ([.ref a0, .int p1, .long p2] : List Value).toArray s = true := hts _ (List.mem_cons_of_mem _ wm_15_4)
  have wd4 : (Cond.initialized "java/lang/Math").before ([.ref a0, .int p1, .long p2] : List Value).toArray s = true := hts _ (List.mem_cons_of_mem _ wm_7_20)
  have wd5 : (Cond.code Lib.MathLoose.min_long.x Lib.MathLoose.min_long.code 4 (some .long)).before ([.ref a0, .int p1, .long p2] : List Value).toArray s = true := hts _ (List.mem_cons_of_mem _ wm_15_5)
  have wd6 : (Cond.fieldLink RX5 49 "ClientMoneyBook$State" "threshold" "I").before ([.ref a0, .int p1, .long p2] : List Value).toArray s = true := hts _ (List.mem_cons_of_mem _ wm_2_11)
  have iX5 : ∀ w ∈ u_ws RX5 TX5 13, w ∈ aX5_interestToCredit := fun w h => List.mem_cons_of_mem _ (inlX5 w h)
  unfold fX5_interestToCredit at hf
  refine lv_lload_n hx hb dX5_interestToCredit_0 rfl (lv_at hl 2 rfl) ?_
  refine lv_ldc2 hx hb hown wd0 dX5_interestToCredit_1 ?_
  refine lv_ldiv hx hb dX5_interestToCredit_4 (by decide) ?_
  refine lv_ldc hx hb hown wd1 dX5_interestToCredit_5 ?_
  refine lv_iload_n hx hb dX5_interestToCredit_7 rfl (lv_at hl 1 rfl) ?_
  refine lv_isub hx hb dX5_interestToCredit_8 ?_
  refine lv_i2l (v := (1000000000 - p1).toInt64) hx hb dX5_interestToCredit_9 rfl ?_
  obtain ⟨mn_1, emn_1, hf⟩ := lt_el hf
  refine va_mmin_long hx hb (hml.trans hl.1.symm) hown wd2 wd3 wd4 wd5 (Nat.le_of_ble_eq_true rfl) (Nat.le_of_ble_eq_true rfl) (Nat.zero_le _) (Nat.zero_le _) dX5_interestToCredit_10 ?_
  refine x_topl emn_1 ?_
  refine lv_lstore (lv' := [(4, .long mn_1), (0, .ref a0), (1, .int p1), (2, .long p2)]) hx hb dX5_interestToCredit_13 hl (by decide) rfl (fun ls hl => ?_)
  refine lv_lload hx hb dX5_interestToCredit_15 (lv_at hl 0 rfl) ?_
  refine lv_aload_n hx hb dX5_interestToCredit_17 rfl (lv_at hl 1 rfl) ?_
  refine x_get hx hb (C := RX5) (T := TX5) (N := 13) (ci := 5) hts iX5 hown hK hP 0 rfl rfl 8 (by decide) wd6 rfl (.int thr) rfl dX5_interestToCredit_18 ?_
  refine lv_i2l (v := thr.toInt64) hx hb dX5_interestToCredit_21 rfl ?_
  refine W.lcmp hx hb dX5_interestToCredit_22 ?_
  refine lv_if_lt (tgt := 32) hx hb dX5_interestToCredit_23 (by decide) (fun c_2 => ?_) (fun c_2 => ?_)
  · have c_2 := (lg_cmp_lt _ _).mp c_2
    have hf := x_t c_2 hf
    refine lv_iconst (v := 0) hx hb dX5_interestToCredit_32 (by decide) ?_
    have hf := Option.some.inj hf
    cases hf
    exact x_iret hx hb hr hlocks hK hP hD hS dX5_interestToCredit_33
  · have c_2 := fun q => c_2 ((lg_cmp_lt _ _).mpr q)
    have hf := x_f c_2 hf
    refine lv_lload hx hb dX5_interestToCredit_26 (lv_at hl 0 rfl) ?_
    refine lv_l2i (v := mn_1.toInt32) hx hb dX5_interestToCredit_28 rfl ?_
    refine lv_goto (tgt := 33) hx hb dX5_interestToCredit_29 (by decide) ?_
    have hf := Option.some.inj hf
    cases hf
    exact x_iret hx hb hr hlocks hK hP hD hS dX5_interestToCredit_33
theorem kdX5_creditAll : yX5_creditAll.cls = RX5 ∧ yX5_creditAll.cls ≠ "java/lang/invoke/MethodHandle" ∧ yX5_creditAll.cls ≠ "java/lang/invoke/VarHandle" ∧ (parseMethodDescriptor yX5_creditAll.desc).map (fun d => d.parameters.length) = some 0 := by decide +kernel
def rmX5_creditAll : Room := { frames := 4, cells := 0, slots := 0, locals := 96 }
set_option maxHeartbeats 4000000 in
set_option maxRecDepth 100000 in
theorem mX5_creditAll (l : Launch) (D : va_G) (cy : Nat → ClassId) (a0 a1 a2 a3 a4 a5 a6 a7 a8 a9 a10 a11 : Nat) (Asz : Int32) (Anu : Nat → Int32) (Aba : Nat → Int32) (Amo : Nat → Int32) (Aco : Nat → Int64) (Hsz : Int32) (Hla : Int32) (Hce : Nat → Int32) (Bsz : Int32) (Bla : Int32) (Bce : Nat → Int32) (Tma : Int32) (Tlc : Int32) (Ttc : Nat → Int32) (day : Int32) (lim : Int32) (low : Int32) (hig : Int32) (thr : Int32) (off : Int64) (cre : Int64) (rcp : Int64) (pay : Int64)  (Aba' : Nat → Int32) (Amo' : Nat → Int32) (Aco' : Nat → Int64) (Tma' : Int32) (Tlc' : Int32) (Ttc' : Nat → Int32) (cre' : Int64) (hf : fX5_creditAll Asz Anu Aba Amo Aco Tma Tlc Ttc day thr cre = some (Aba', Amo', Aco', Tma', Tlc', Ttc', cre')) : xMv l D cy yX5_creditAll aX5_creditAll rmX5_creditAll ([.ref a0] : List Value) (wX5 cy a0 a1 a2 a3 a4 a5 a6 a7 a8 a9 a10 a11 Asz Anu Aba Amo Aco Hsz Hla Hce Bsz Bla Bce Tma Tlc Ttc day lim low hig thr off cre rcp pay) (wX5 cy a0 a1 a2 a3 a4 a5 a6 a7 a8 a9 a10 a11 Asz Anu Aba' Amo' Aco' Hsz Hla Hce Bsz Bla Bce Tma' Tlc' Ttc' day lim low hig thr off cre' rcp pay) := by
  intro hz
  refine x_start (Qc := xQv D cy _) (cc := cX5_creditAll) (maxL := 3) (ret := none) (by decide) rfl (Nat.le_of_ble_eq_true rfl) (lv := [(0, .ref a0)]) rfl ?_
  intro p e s m below meth c ls A hx hb hr hml hown hts hlocks hK hP hD hS hA hN hl
  have hown : s.vm.findClass RX5 = some m.cls := hown
  have hbg : ∀ w ∈ wsL_law, w ∈ aX5_creditAll := fun w h => List.mem_cons_of_mem _ h
  have wd0 : (Cond.fieldLink RX5 12 "ClientMoneyBook$State" "accounts" "LClientMoneyBook$Accounts;").before ([.ref a0] : List Value).toArray s = true := hts _ (List.mem_cons_of_mem _ wm_1_20)
  have wd1 : (Cond.fieldLink RX5 80 "ClientMoneyBook$Accounts" "size" "I").before ([.ref a0] : List Value).toArray s = true := hts _ (List.mem_cons_of_mem _ wm_6_13)
  have wd2 : (Cond.constantLong RX5 191 (-3650000)).before ([.ref a0] : List Value).toArray s = true := hts _ (List.mem_cons_of_mem _ wm_16_17)
  have wd3 : (Cond.fieldLink RX5 56 "ClientMoneyBook$State" "credited" "J").before ([.ref a0] : List Value).toArray s = true := hts _ (List.mem_cons_of_mem _ wm_2_13)
  have iX0 : ∀ w ∈ u_ws RX0 TX0 5, w ∈ aX5_creditAll := fun w h => List.mem_cons_of_mem _ (inlX0 w h)
  have iX5 : ∀ w ∈ u_ws RX5 TX5 13, w ∈ aX5_creditAll := fun w h => List.mem_cons_of_mem _ (inlX5 w h)
  unfold fX5_creditAll at hf
  refine lv_iconst (v := 0) hx hb dX5_creditAll_0 (by decide) ?_
  refine lv_istore_n (lv' := [(1, .int 0), (0, .ref a0)]) hx hb dX5_creditAll_1 rfl hl (by decide) rfl (fun ls hl => ?_)
  have hL_2 : ∀ (n : Nat) (Aba_28 : Nat → Int32) (Amo_29 : Nat → Int32) (Aco_30 : Nat → Int64) (Tma_31 : Int32) (Tlc_32 : Int32) (Ttc_33 : Nat → Int32) (cre_34 : Int64) (z1_35 : Int32) (o : (Nat → Int32) × (Nat → Int32) × (Nat → Int64) × Int32 × Int32 × (Nat → Int32) × Int64) (H : Heap) (locs : List Loc) (ls : Array Slot), fX5_creditAll_L2 Asz Anu day thr n Aba_28 Amo_29 Aco_30 Tma_31 Tlc_32 Ttc_33 cre_34 z1_35 = some o → va_P D vwCl (wX5 cy a0 a1 a2 a3 a4 a5 a6 a7 a8 a9 a10 a11 Asz Anu Aba_28 Amo_29 Aco_30 Hsz Hla Hce Bsz Bla Bce Tma_31 Tlc_32 Ttc_33 day lim low hig thr off cre_34 rcp pay) H → va_D A (wX5 cy a0 a1 a2 a3 a4 a5 a6 a7 a8 a9 a10 a11 Asz Anu Aba_28 Amo_29 Aco_30 Hsz Hla Hce Bsz Bla Bce Tma_31 Tlc_32 Ttc_33 day lim low hig thr off cre_34 rcp pay) → va_S A s.heap H locs → lv_has ls 3 [(0, .ref a0), (1, .int z1_35)] → True → ((∀ (Aba_36 : Nat → Int32) (Amo_37 : Nat → Int32) (Aco_38 : Nat → Int64) (Tma_39 : Int32) (Tlc_40 : Int32) (Ttc_41 : Nat → Int32) (cre_42 : Int64) , o = (Aba_36, Amo_37, Aco_38, Tma_39, Tlc_40, Ttc_41, cre_42) → ∀ (H : Heap) (locs : List Loc) (ls : Array Slot), va_P D vwCl (wX5 cy a0 a1 a2 a3 a4 a5 a6 a7 a8 a9 a10 a11 Asz Anu Aba_36 Amo_37 Aco_38 Hsz Hla Hce Bsz Bla Bce Tma_39 Tlc_40 Ttc_41 day lim low hig thr off cre_42 rcp pay) H → va_D A (wX5 cy a0 a1 a2 a3 a4 a5 a6 a7 a8 a9 a10 a11 Asz Anu Aba_36 Amo_37 Aco_38 Hsz Hla Hce Bsz Bla Bce Tma_39 Tlc_40 Ttc_41 day lim low hig thr off cre_42 rcp pay) → va_S A s.heap H locs → lv_has ls 3 [] →  W p l e rmX5_creditAll s m ([.ref a0] : List Value).toArray below meth c H locs 0 0 (MQ below (xQv D cy (wX5 cy a0 a1 a2 a3 a4 a5 a6 a7 a8 a9 a10 a11 Asz Anu Aba' Amo' Aco' Hsz Hla Hce Bsz Bla Bce Tma' Tlc' Ttc' day lim low hig thr off cre' rcp pay) A) ([.ref a0] : List Value).toArray s 0 0 A) (F0 m 93 ls []))) → W p l e rmX5_creditAll s m ([.ref a0] : List Value).toArray below meth c H locs 0 0 (MQ below (xQv D cy (wX5 cy a0 a1 a2 a3 a4 a5 a6 a7 a8 a9 a10 a11 Asz Anu Aba' Amo' Aco' Hsz Hla Hce Bsz Bla Bce Tma' Tlc' Ttc' day lim low hig thr off cre' rcp pay) A) ([.ref a0] : List Value).toArray s 0 0 A) (F0 m 2 ls []) := by
    intro n
    induction n with
    | zero =>
      intro Aba_28 Amo_29 Aco_30 Tma_31 Tlc_32 Ttc_33 cre_34 z1_35 o_2 H locs ls hf
      rw [fX5_creditAll_L2] at hf
      cases hf
    | succ n ih =>
      intro Aba_28 Amo_29 Aco_30 Tma_31 Tlc_32 Ttc_33 cre_34 z1_35 o_2 H locs ls hf hP hD hS hl hr_2 kx_2
      rw [fX5_creditAll_L2] at hf
      refine lv_iload_n hx hb dX5_creditAll_2 rfl (lv_at hl 1 rfl) ?_
      refine lv_aload_n hx hb dX5_creditAll_3 rfl (lv_at hl 0 rfl) ?_
      refine x_get hx hb (C := RX5) (T := TX5) (N := 13) (ci := 5) hts iX5 hown hK hP 0 rfl rfl 0 (by decide) wd0 rfl (.ref a1) rfl dX5_creditAll_4 ?_
      refine x_get hx hb (C := RX0) (T := TX0) (N := 5) (ci := 0) hts iX0 hown hK hP 1 rfl rfl 0 (by decide) wd1 rfl (.int Asz) rfl dX5_creditAll_7 ?_
      refine lv_icmp_ge (tgt := 93) hx hb dX5_creditAll_10 (by decide) (fun c_43 => ?_) (fun c_43 => ?_)
      · have hf := x_t c_43 hf
        exact kx_2 Aba_28 Amo_29 Aco_30 Tma_31 Tlc_32 Ttc_33 cre_34 (Option.some.inj hf).symm _ _ _ hP hD hS (lv_sub hl [] rfl)
      · have hf := x_f c_43 hf
        refine lv_aload_n hx hb dX5_creditAll_13 rfl (lv_at hl 0 rfl) ?_
        refine lv_aload_n hx hb dX5_creditAll_14 rfl (lv_at hl 0 rfl) ?_
        refine x_get hx hb (C := RX5) (T := TX5) (N := 13) (ci := 5) hts iX5 hown hK hP 0 rfl rfl 0 (by decide) wd0 rfl (.ref a1) rfl dX5_creditAll_15 ?_
        refine lv_iload_n hx hb dX5_creditAll_18 rfl (lv_at hl 1 rfl) ?_
        obtain ⟨r_44, h_45, hf⟩ := bd1_el hf
        refine x_callVi (As := [.int z1_35]) (rest := [.ref a0]) ⟨hx, hb, hml, hown, hts⟩ (mX0_balanceAt l D cy a1 a2 a3 a4 a5 Asz Anu Aba_28 Amo_29 Aco_30 z1_35 r_44 h_45) (cwV 1 hts (gcV_X0_balanceAt hbg wm_8_13) rfl rfl rfl kdX0_balanceAt ⟨Nat.le_of_ble_eq_true rfl, Nat.le_of_ble_eq_true rfl⟩) (w1 := [(a0, .inr (5, [.ref a1, .ref a6, .ref a8, .ref a10, .int day, .int lim, .int low, .int hig, .int thr, .long off, .long cre_34, .long rcp, .long pay]))]) (w2 := wX4 cy a6 a7 Hsz Hla Hce ++ (wX4 cy a8 a9 Bsz Bla Bce ++ (wX6 cy a10 a11 Tma_31 Tlc_32 Ttc_33))) (w' := wX5 cy a0 a1 a2 a3 a4 a5 a6 a7 a8 a9 a10 a11 Asz Anu Aba_28 Amo_29 Aco_30 Hsz Hla Hce Bsz Bla Bce Tma_31 Tlc_32 Ttc_33 day lim low hig thr off cre_34 rcp pay) rfl rfl hP hK hD hN hS hA (q0 := 0) rfl rfl rfl rfl hl rfl (Nat.le_of_ble_eq_true rfl) dX5_creditAll_19 ⟨Nat.zero_le _, Nat.zero_le _⟩ (fun H locs hP hD hS => ?_)
        refine lv_aload_n hx hb dX5_creditAll_22 rfl (lv_at hl 0 rfl) ?_
        refine x_get hx hb (C := RX5) (T := TX5) (N := 13) (ci := 5) hts iX5 hown hK hP 0 rfl rfl 0 (by decide) wd0 rfl (.ref a1) rfl dX5_creditAll_23 ?_
        refine lv_iload_n hx hb dX5_creditAll_26 rfl (lv_at hl 1 rfl) ?_
        obtain ⟨r_46, h_47, hf⟩ := bd1_el hf
        refine x_callVl (As := [.int z1_35]) (rest := [.int r_44, .ref a0]) ⟨hx, hb, hml, hown, hts⟩ (mX0_countAt l D cy a1 a2 a3 a4 a5 Asz Anu Aba_28 Amo_29 Aco_30 z1_35 r_46 h_47) (cwV 1 hts (gcV_X0_countAt hbg wm_14_13) rfl rfl rfl kdX0_countAt ⟨Nat.le_of_ble_eq_true rfl, Nat.le_of_ble_eq_true rfl⟩) (w1 := [(a0, .inr (5, [.ref a1, .ref a6, .ref a8, .ref a10, .int day, .int lim, .int low, .int hig, .int thr, .long off, .long cre_34, .long rcp, .long pay]))]) (w2 := wX4 cy a6 a7 Hsz Hla Hce ++ (wX4 cy a8 a9 Bsz Bla Bce ++ (wX6 cy a10 a11 Tma_31 Tlc_32 Ttc_33))) (w' := wX5 cy a0 a1 a2 a3 a4 a5 a6 a7 a8 a9 a10 a11 Asz Anu Aba_28 Amo_29 Aco_30 Hsz Hla Hce Bsz Bla Bce Tma_31 Tlc_32 Ttc_33 day lim low hig thr off cre_34 rcp pay) rfl rfl hP hK hD hN hS hA (q0 := 0) rfl rfl rfl rfl hl rfl (Nat.le_of_ble_eq_true rfl) dX5_creditAll_27 ⟨Nat.zero_le _, Nat.zero_le _⟩ (fun H locs hP hD hS => ?_)
        obtain ⟨r_48, h_49, hf⟩ := bd1_el hf
        refine x_callVi (As := [.int r_44, .long r_46]) (rest := []) ⟨hx, hb, hml, hown, hts⟩ (mX5_interestToCredit l D cy a0 a1 a2 a3 a4 a5 a6 a7 a8 a9 a10 a11 Asz Anu Aba_28 Amo_29 Aco_30 Hsz Hla Hce Bsz Bla Bce Tma_31 Tlc_32 Ttc_33 day lim low hig thr off cre_34 rcp pay r_44 r_46 r_48 h_49) (cwV 2 hts (gcV_X5_interestToCredit hbg wm_14_23) rfl rfl rfl kdX5_interestToCredit ⟨Nat.le_of_ble_eq_true rfl, Nat.le_of_ble_eq_true rfl⟩) (w1 := []) (w2 := []) (w' := wX5 cy a0 a1 a2 a3 a4 a5 a6 a7 a8 a9 a10 a11 Asz Anu Aba_28 Amo_29 Aco_30 Hsz Hla Hce Bsz Bla Bce Tma_31 Tlc_32 Ttc_33 day lim low hig thr off cre_34 rcp pay) (List.append_nil _) (List.append_nil _) hP hK hD hN hS hA (q0 := 0) rfl rfl rfl rfl hl rfl (Nat.le_of_ble_eq_true rfl) dX5_creditAll_30 ⟨Nat.zero_le _, Nat.zero_le _⟩ (fun H locs hP hD hS => ?_)
        refine lv_istore_n (lv' := [(2, .int r_48), (0, .ref a0), (1, .int z1_35)]) hx hb dX5_creditAll_33 rfl hl (by decide) rfl (fun ls hl => ?_)
        refine lv_iload_n hx hb dX5_creditAll_34 rfl (lv_at hl 0 rfl) ?_
        refine lv_if_le (tgt := 87) hx hb dX5_creditAll_35 (by decide) (fun c_50 => ?_) (fun c_50 => ?_)
        · have hf := x_t c_50 hf
          refine lv_iinc (v := (z1_35 + 1)) (lv' := [(1, .int (z1_35 + 1)), (2, .int r_48), (0, .ref a0)]) hx hb dX5_creditAll_87 hl (k := 2) rfl rfl (by decide) rfl (fun ls hl => ?_)
          refine lv_goto (tgt := 2) hx hb dX5_creditAll_90 (by decide) ?_
          exact ih Aba_28 Amo_29 Aco_30 Tma_31 Tlc_32 Ttc_33 cre_34 (z1_35 + 1) _ _ _ _ hf hP hD hS (lv_sub hl [2, 0] rfl) hr_2 kx_2
        · have hf := x_f c_50 hf
          refine lv_aload_n hx hb dX5_creditAll_38 rfl (lv_at hl 1 rfl) ?_
          refine x_get hx hb (C := RX5) (T := TX5) (N := 13) (ci := 5) hts iX5 hown hK hP 0 rfl rfl 0 (by decide) wd0 rfl (.ref a1) rfl dX5_creditAll_39 ?_
          refine lv_iload_n hx hb dX5_creditAll_42 rfl (lv_at hl 2 rfl) ?_
          refine lv_iload_n hx hb dX5_creditAll_43 rfl (lv_at hl 0 rfl) ?_
          obtain ⟨Aba_51, h_52, hf⟩ := bd1_el hf
          refine x_callVv (As := [.int z1_35, .int r_48]) (rest := []) ⟨hx, hb, hml, hown, hts⟩ (mX0_add l D cy a1 a2 a3 a4 a5 Asz Anu Aba_28 Amo_29 Aco_30 z1_35 r_48 Aba_51 h_52) (cwV 2 hts (gcV_X0_add hbg wm_8_17) rfl rfl rfl kdX0_add ⟨Nat.le_of_ble_eq_true rfl, Nat.le_of_ble_eq_true rfl⟩) (w1 := [(a0, .inr (5, [.ref a1, .ref a6, .ref a8, .ref a10, .int day, .int lim, .int low, .int hig, .int thr, .long off, .long cre_34, .long rcp, .long pay]))]) (w2 := wX4 cy a6 a7 Hsz Hla Hce ++ (wX4 cy a8 a9 Bsz Bla Bce ++ (wX6 cy a10 a11 Tma_31 Tlc_32 Ttc_33))) (w' := wX5 cy a0 a1 a2 a3 a4 a5 a6 a7 a8 a9 a10 a11 Asz Anu Aba_51 Amo_29 Aco_30 Hsz Hla Hce Bsz Bla Bce Tma_31 Tlc_32 Ttc_33 day lim low hig thr off cre_34 rcp pay) rfl rfl hP hK hD hN hS hA (q0 := 0) rfl rfl rfl rfl hl rfl (Nat.le_of_ble_eq_true rfl) dX5_creditAll_44 ⟨Nat.zero_le _, Nat.zero_le _⟩ (fun H locs hP hD hS => ?_)
          refine lv_aload_n hx hb dX5_creditAll_47 rfl (lv_at hl 1 rfl) ?_
          refine x_get hx hb (C := RX5) (T := TX5) (N := 13) (ci := 5) hts iX5 hown hK hP 0 rfl rfl 0 (by decide) wd0 rfl (.ref a1) rfl dX5_creditAll_48 ?_
          refine lv_iload_n hx hb dX5_creditAll_51 rfl (lv_at hl 2 rfl) ?_
          refine lv_ldc2 hx hb hown wd2 dX5_creditAll_52 ?_
          refine lv_iload_n hx hb dX5_creditAll_55 rfl (lv_at hl 0 rfl) ?_
          refine lv_i2l (v := r_48.toInt64) hx hb dX5_creditAll_56 rfl ?_
          refine lv_lmul hx hb dX5_creditAll_57 ?_
          obtain ⟨Aco_53, h_54, hf⟩ := bd1_el hf
          refine x_callVv (As := [.int z1_35, .long ((-3650000) * r_48.toInt64)]) (rest := []) ⟨hx, hb, hml, hown, hts⟩ (mX0_addCount l D cy a1 a2 a3 a4 a5 Asz Anu Aba_51 Amo_29 Aco_30 z1_35 ((-3650000) * r_48.toInt64) Aco_53 h_54) (cwV 2 hts (gcV_X0_addCount hbg wm_16_9) rfl rfl rfl kdX0_addCount ⟨Nat.le_of_ble_eq_true rfl, Nat.le_of_ble_eq_true rfl⟩) (w1 := [(a0, .inr (5, [.ref a1, .ref a6, .ref a8, .ref a10, .int day, .int lim, .int low, .int hig, .int thr, .long off, .long cre_34, .long rcp, .long pay]))]) (w2 := wX4 cy a6 a7 Hsz Hla Hce ++ (wX4 cy a8 a9 Bsz Bla Bce ++ (wX6 cy a10 a11 Tma_31 Tlc_32 Ttc_33))) (w' := wX5 cy a0 a1 a2 a3 a4 a5 a6 a7 a8 a9 a10 a11 Asz Anu Aba_51 Amo_29 Aco_53 Hsz Hla Hce Bsz Bla Bce Tma_31 Tlc_32 Ttc_33 day lim low hig thr off cre_34 rcp pay) rfl rfl hP hK hD hN hS hA (q0 := 0) rfl rfl rfl rfl hl rfl (Nat.le_of_ble_eq_true rfl) dX5_creditAll_58 ⟨Nat.zero_le _, Nat.zero_le _⟩ (fun H locs hP hD hS => ?_)
          refine lv_aload_n hx hb dX5_creditAll_61 rfl (lv_at hl 1 rfl) ?_
          refine lv_dup hx hb dX5_creditAll_62 rfl ?_
          refine x_get hx hb (C := RX5) (T := TX5) (N := 13) (ci := 5) hts iX5 hown hK hP 0 rfl rfl 10 (by decide) wd3 rfl (.long cre_34) rfl dX5_creditAll_63 ?_
          refine lv_iload_n hx hb dX5_creditAll_66 rfl (lv_at hl 0 rfl) ?_
          refine lv_i2l (v := r_48.toInt64) hx hb dX5_creditAll_67 rfl ?_
          refine lv_ladd hx hb dX5_creditAll_68 ?_
          obtain ⟨cre_55, ecre_55, hf⟩ := lt_el hf
          refine x_topl ecre_55 ?_
          refine x_put hx hb (C := RX5) (T := TX5) (N := 13) (ci := 5) hts iX5 tyX5 tyX5_ok nmX5 hown hK hP hD hS 0 rfl rfl 10 (by decide) wd3 rfl rfl (ty := .long) rfl rfl rfl (Nat.le_of_ble_eq_true rfl) (w' := wX5 cy a0 a1 a2 a3 a4 a5 a6 a7 a8 a9 a10 a11 Asz Anu Aba_51 Amo_29 Aco_53 Hsz Hla Hce Bsz Bla Bce Tma_31 Tlc_32 Ttc_33 day lim low hig thr off cre_55 rcp pay) rfl dX5_creditAll_69 (fun H locs hP hD hS => ?_)
          refine lv_aload_n hx hb dX5_creditAll_72 rfl (lv_at hl 1 rfl) ?_
          refine lv_iconst (v := 5) hx hb dX5_creditAll_73 (by decide) ?_
          refine lv_aload_n hx hb dX5_creditAll_74 rfl (lv_at hl 1 rfl) ?_
          refine x_get hx hb (C := RX5) (T := TX5) (N := 13) (ci := 5) hts iX5 hown hK hP 0 rfl rfl 0 (by decide) wd0 rfl (.ref a1) rfl dX5_creditAll_75 ?_
          refine lv_iload_n hx hb dX5_creditAll_78 rfl (lv_at hl 2 rfl) ?_
          obtain ⟨r_56, h_57, hf⟩ := bd1_el hf
          refine x_callVi (As := [.int z1_35]) (rest := [.int 5, .ref a0]) ⟨hx, hb, hml, hown, hts⟩ (mX0_numberAt l D cy a1 a2 a3 a4 a5 Asz Anu Aba_51 Amo_29 Aco_53 z1_35 r_56 h_57) (cwV 1 hts (gcV_X0_numberAt hbg wm_11_1) rfl rfl rfl kdX0_numberAt ⟨Nat.le_of_ble_eq_true rfl, Nat.le_of_ble_eq_true rfl⟩) (w1 := [(a0, .inr (5, [.ref a1, .ref a6, .ref a8, .ref a10, .int day, .int lim, .int low, .int hig, .int thr, .long off, .long cre_55, .long rcp, .long pay]))]) (w2 := wX4 cy a6 a7 Hsz Hla Hce ++ (wX4 cy a8 a9 Bsz Bla Bce ++ (wX6 cy a10 a11 Tma_31 Tlc_32 Ttc_33))) (w' := wX5 cy a0 a1 a2 a3 a4 a5 a6 a7 a8 a9 a10 a11 Asz Anu Aba_51 Amo_29 Aco_53 Hsz Hla Hce Bsz Bla Bce Tma_31 Tlc_32 Ttc_33 day lim low hig thr off cre_55 rcp pay) rfl rfl hP hK hD hN hS hA (q0 := 0) rfl rfl rfl rfl hl rfl (Nat.le_of_ble_eq_true rfl) dX5_creditAll_79 ⟨Nat.zero_le _, Nat.zero_le _⟩ (fun H locs hP hD hS => ?_)
          refine lv_iconst (v := 0) hx hb dX5_creditAll_82 (by decide) ?_
          refine lv_iload_n hx hb dX5_creditAll_83 rfl (lv_at hl 0 rfl) ?_
          obtain ⟨Amo_58, Tma_59, Tlc_60, Ttc_61, h_62, hf⟩ := bd4_el hf
          refine x_callVv (As := [.int 5, .int r_56, .int 0, .int r_48]) (rest := []) ⟨hx, hb, hml, hown, hts⟩ (mX5_enter l D cy a0 a1 a2 a3 a4 a5 a6 a7 a8 a9 a10 a11 Asz Anu Aba_51 Amo_29 Aco_53 Hsz Hla Hce Bsz Bla Bce Tma_31 Tlc_32 Ttc_33 day lim low hig thr off cre_55 rcp pay 5 r_56 0 r_48 Amo_58 Tma_59 Tlc_60 Ttc_61 h_62) (cwV 4 hts (gcV_X5_enter hbg wm_8_21) rfl rfl rfl kdX5_enter ⟨Nat.le_of_ble_eq_true rfl, Nat.le_of_ble_eq_true rfl⟩) (w1 := []) (w2 := []) (w' := wX5 cy a0 a1 a2 a3 a4 a5 a6 a7 a8 a9 a10 a11 Asz Anu Aba_51 Amo_58 Aco_53 Hsz Hla Hce Bsz Bla Bce Tma_59 Tlc_60 Ttc_61 day lim low hig thr off cre_55 rcp pay) (List.append_nil _) (List.append_nil _) hP hK hD hN hS hA (q0 := 0) rfl rfl rfl rfl hl rfl (Nat.le_of_ble_eq_true rfl) dX5_creditAll_84 ⟨Nat.zero_le _, Nat.zero_le _⟩ (fun H locs hP hD hS => ?_)
          refine lv_iinc (v := (z1_35 + 1)) (lv' := [(1, .int (z1_35 + 1)), (2, .int r_48), (0, .ref a0)]) hx hb dX5_creditAll_87 hl (k := 2) rfl rfl (by decide) rfl (fun ls hl => ?_)
          refine lv_goto (tgt := 2) hx hb dX5_creditAll_90 (by decide) ?_
          exact ih Aba_51 Amo_58 Aco_53 Tma_59 Tlc_60 Ttc_61 cre_55 (z1_35 + 1) _ _ _ _ hf hP hD hS (lv_sub hl [2, 0] rfl) hr_2 kx_2
  obtain ⟨Aba_21, Amo_22, Aco_23, Tma_24, Tlc_25, Ttc_26, cre_27, h1_2, hf⟩ := bd7_el hf
  refine hL_2 2147483648 Aba Amo Aco Tma Tlc Ttc cre 0 _ _ _ _ h1_2 hP hD hS (lv_sub hl [1, 0] rfl) trivial (fun Aba_219 Amo_229 Aco_239 Tma_249 Tlc_259 Ttc_269 cre_279 ho H locs ls hP hD hS hl => ?_)
  cases ho
  have hf := Option.some.inj hf
  cases hf
  exact x_vret hx hb hr hlocks hK hP hD hS dX5_creditAll_93
theorem kdX5_endHoldsThatAreOver : yX5_endHoldsThatAreOver.cls = RX5 ∧ yX5_endHoldsThatAreOver.cls ≠ "java/lang/invoke/MethodHandle" ∧ yX5_endHoldsThatAreOver.cls ≠ "java/lang/invoke/VarHandle" ∧ (parseMethodDescriptor yX5_endHoldsThatAreOver.desc).map (fun d => d.parameters.length) = some 0 := by decide +kernel
def rmX5_endHoldsThatAreOver : Room := { frames := 2, cells := 0, slots := 0, locals := 46 }
set_option maxHeartbeats 4000000 in
set_option maxRecDepth 100000 in
theorem mX5_endHoldsThatAreOver (l : Launch) (D : va_G) (cy : Nat → ClassId) (a0 a1 a2 a3 a4 a5 a6 a7 a8 a9 a10 a11 : Nat) (Asz : Int32) (Anu : Nat → Int32) (Aba : Nat → Int32) (Amo : Nat → Int32) (Aco : Nat → Int64) (Hsz : Int32) (Hla : Int32) (Hce : Nat → Int32) (Bsz : Int32) (Bla : Int32) (Bce : Nat → Int32) (Tma : Int32) (Tlc : Int32) (Ttc : Nat → Int32) (day : Int32) (lim : Int32) (low : Int32) (hig : Int32) (thr : Int32) (off : Int64) (cre : Int64) (rcp : Int64) (pay : Int64)  (Hsz' : Int32) (Hce' : Nat → Int32) (hf : fX5_endHoldsThatAreOver Hsz Hce day = some (Hsz', Hce')) : xMv l D cy yX5_endHoldsThatAreOver aX5_endHoldsThatAreOver rmX5_endHoldsThatAreOver ([.ref a0] : List Value) (wX5 cy a0 a1 a2 a3 a4 a5 a6 a7 a8 a9 a10 a11 Asz Anu Aba Amo Aco Hsz Hla Hce Bsz Bla Bce Tma Tlc Ttc day lim low hig thr off cre rcp pay) (wX5 cy a0 a1 a2 a3 a4 a5 a6 a7 a8 a9 a10 a11 Asz Anu Aba Amo Aco Hsz' Hla Hce' Bsz Bla Bce Tma Tlc Ttc day lim low hig thr off cre rcp pay) := by
  intro hz
  refine x_start (Qc := xQv D cy _) (cc := cX5_endHoldsThatAreOver) (maxL := 2) (ret := none) (by decide) rfl (Nat.le_of_ble_eq_true rfl) (lv := [(0, .ref a0)]) rfl ?_
  intro p e s m below meth c ls A hx hb hr hml hown hts hlocks hK hP hD hS hA hN hl
  have hown : s.vm.findClass RX5 = some m.cls := hown
  have hbg : ∀ w ∈ wsL_law, w ∈ aX5_endHoldsThatAreOver := fun w h => List.mem_cons_of_mem _ h
  have wd0 : (Cond.fieldLink RX5 21 "ClientMoneyBook$State" "holds" "LClientMoneyBook$Rows;").before ([.ref a0] : List Value).toArray s = true := hts _ (List.mem_cons_of_mem _ wm_2_0)
  have wd1 : (Cond.fieldLink RX5 111 "ClientMoneyBook$Rows" "size" "I").before ([.ref a0] : List Value).toArray s = true := hts _ (List.mem_cons_of_mem _ wm_12_2)
  have wd2 : (Cond.fieldLink RX5 35 "ClientMoneyBook$State" "day" "I").before ([.ref a0] : List Value).toArray s = true := hts _ (List.mem_cons_of_mem _ wm_2_6)
  have iX4 : ∀ w ∈ u_ws RX4 TX4 3, w ∈ aX5_endHoldsThatAreOver := fun w h => List.mem_cons_of_mem _ (inlX4 w h)
  have iX5 : ∀ w ∈ u_ws RX5 TX5 13, w ∈ aX5_endHoldsThatAreOver := fun w h => List.mem_cons_of_mem _ (inlX5 w h)
  unfold fX5_endHoldsThatAreOver at hf
  refine lv_aload_n hx hb dX5_endHoldsThatAreOver_0 rfl (lv_at hl 0 rfl) ?_
  refine x_get hx hb (C := RX5) (T := TX5) (N := 13) (ci := 5) hts iX5 hown hK hP 0 rfl rfl 1 (by decide) wd0 rfl (.ref a6) rfl dX5_endHoldsThatAreOver_1 ?_
  refine x_get hx hb (C := RX4) (T := TX4) (N := 3) (ci := 4) hts iX4 hown hK hP 6 rfl rfl 0 (by decide) wd1 rfl (.int Hsz) rfl dX5_endHoldsThatAreOver_4 ?_
  refine lv_iconst (v := 1) hx hb dX5_endHoldsThatAreOver_7 (by decide) ?_
  refine lv_isub hx hb dX5_endHoldsThatAreOver_8 ?_
  obtain ⟨x1_1, ex1_1, hf⟩ := lt_el hf
  refine x_topi ex1_1 ?_
  refine lv_istore_n (lv' := [(1, .int x1_1), (0, .ref a0)]) hx hb dX5_endHoldsThatAreOver_9 rfl hl (by decide) rfl (fun ls hl => ?_)
  have hL_10 : ∀ (n : Nat) (Hsz_11 : Int32) (Hce_12 : Nat → Int32) (z1_13 : Int32) (o : Int32 × (Nat → Int32)) (H : Heap) (locs : List Loc) (ls : Array Slot), fX5_endHoldsThatAreOver_L10 day n Hsz_11 Hce_12 z1_13 = some o → va_P D vwCl (wX5 cy a0 a1 a2 a3 a4 a5 a6 a7 a8 a9 a10 a11 Asz Anu Aba Amo Aco Hsz_11 Hla Hce_12 Bsz Bla Bce Tma Tlc Ttc day lim low hig thr off cre rcp pay) H → va_D A (wX5 cy a0 a1 a2 a3 a4 a5 a6 a7 a8 a9 a10 a11 Asz Anu Aba Amo Aco Hsz_11 Hla Hce_12 Bsz Bla Bce Tma Tlc Ttc day lim low hig thr off cre rcp pay) → va_S A s.heap H locs → lv_has ls 2 [(0, .ref a0), (1, .int z1_13)] → True → ((∀ (Hsz_14 : Int32) (Hce_15 : Nat → Int32) , o = (Hsz_14, Hce_15) → ∀ (H : Heap) (locs : List Loc) (ls : Array Slot), va_P D vwCl (wX5 cy a0 a1 a2 a3 a4 a5 a6 a7 a8 a9 a10 a11 Asz Anu Aba Amo Aco Hsz_14 Hla Hce_15 Bsz Bla Bce Tma Tlc Ttc day lim low hig thr off cre rcp pay) H → va_D A (wX5 cy a0 a1 a2 a3 a4 a5 a6 a7 a8 a9 a10 a11 Asz Anu Aba Amo Aco Hsz_14 Hla Hce_15 Bsz Bla Bce Tma Tlc Ttc day lim low hig thr off cre rcp pay) → va_S A s.heap H locs → lv_has ls 2 [] →  W p l e rmX5_endHoldsThatAreOver s m ([.ref a0] : List Value).toArray below meth c H locs 0 0 (MQ below (xQv D cy (wX5 cy a0 a1 a2 a3 a4 a5 a6 a7 a8 a9 a10 a11 Asz Anu Aba Amo Aco Hsz' Hla Hce' Bsz Bla Bce Tma Tlc Ttc day lim low hig thr off cre rcp pay) A) ([.ref a0] : List Value).toArray s 0 0 A) (F0 m 44 ls []))) → W p l e rmX5_endHoldsThatAreOver s m ([.ref a0] : List Value).toArray below meth c H locs 0 0 (MQ below (xQv D cy (wX5 cy a0 a1 a2 a3 a4 a5 a6 a7 a8 a9 a10 a11 Asz Anu Aba Amo Aco Hsz' Hla Hce' Bsz Bla Bce Tma Tlc Ttc day lim low hig thr off cre rcp pay) A) ([.ref a0] : List Value).toArray s 0 0 A) (F0 m 10 ls []) := by
    intro n
    induction n with
    | zero =>
      intro Hsz_11 Hce_12 z1_13 o_10 H locs ls hf
      rw [fX5_endHoldsThatAreOver_L10] at hf
      cases hf
    | succ n ih =>
      intro Hsz_11 Hce_12 z1_13 o_10 H locs ls hf hP hD hS hl hr_10 kx_10
      rw [fX5_endHoldsThatAreOver_L10] at hf
      refine lv_iload_n hx hb dX5_endHoldsThatAreOver_10 rfl (lv_at hl 1 rfl) ?_
      refine lv_if_lt (tgt := 44) hx hb dX5_endHoldsThatAreOver_11 (by decide) (fun c_16 => ?_) (fun c_16 => ?_)
      · have hf := x_t c_16 hf
        exact kx_10 Hsz_11 Hce_12 (Option.some.inj hf).symm _ _ _ hP hD hS (lv_sub hl [] rfl)
      · have hf := x_f c_16 hf
        refine lv_aload_n hx hb dX5_endHoldsThatAreOver_14 rfl (lv_at hl 0 rfl) ?_
        refine x_get hx hb (C := RX5) (T := TX5) (N := 13) (ci := 5) hts iX5 hown hK hP 0 rfl rfl 1 (by decide) wd0 rfl (.ref a6) rfl dX5_endHoldsThatAreOver_15 ?_
        refine lv_iload_n hx hb dX5_endHoldsThatAreOver_18 rfl (lv_at hl 1 rfl) ?_
        refine lv_iconst (v := 3) hx hb dX5_endHoldsThatAreOver_19 (by decide) ?_
        obtain ⟨r_17, h_18, hf⟩ := bd1_el hf
        refine x_callVi (As := [.int z1_13, .int 3]) (rest := []) ⟨hx, hb, hml, hown, hts⟩ (mX4_get l D cy a6 a7 Hsz_11 Hla Hce_12 z1_13 3 r_17 h_18) (cwV 2 hts (gcV_X4_get hbg wm_12_23) rfl rfl rfl kdX4_get ⟨Nat.le_of_ble_eq_true rfl, Nat.le_of_ble_eq_true rfl⟩) (w1 := [(a0, .inr (5, [.ref a1, .ref a6, .ref a8, .ref a10, .int day, .int lim, .int low, .int hig, .int thr, .long off, .long cre, .long rcp, .long pay]))] ++ (wX0 cy a1 a2 a3 a4 a5 Asz Anu Aba Amo Aco)) (w2 := wX4 cy a8 a9 Bsz Bla Bce ++ (wX6 cy a10 a11 Tma Tlc Ttc)) (w' := wX5 cy a0 a1 a2 a3 a4 a5 a6 a7 a8 a9 a10 a11 Asz Anu Aba Amo Aco Hsz_11 Hla Hce_12 Bsz Bla Bce Tma Tlc Ttc day lim low hig thr off cre rcp pay) rfl rfl hP hK hD hN hS hA (q0 := 0) rfl rfl rfl rfl hl rfl (Nat.le_of_ble_eq_true rfl) dX5_endHoldsThatAreOver_20 ⟨Nat.zero_le _, Nat.zero_le _⟩ (fun H locs hP hD hS => ?_)
        refine lv_aload_n hx hb dX5_endHoldsThatAreOver_23 rfl (lv_at hl 0 rfl) ?_
        refine x_get hx hb (C := RX5) (T := TX5) (N := 13) (ci := 5) hts iX5 hown hK hP 0 rfl rfl 4 (by decide) wd2 rfl (.int day) rfl dX5_endHoldsThatAreOver_24 ?_
        refine lv_icmp_ge (tgt := 38) hx hb dX5_endHoldsThatAreOver_27 (by decide) (fun c_19 => ?_) (fun c_19 => ?_)
        · have hf := x_t c_19 hf
          refine lv_iinc (v := (z1_13 + (-1))) (lv' := [(1, .int (z1_13 + (-1))), (0, .ref a0)]) hx hb dX5_endHoldsThatAreOver_38 hl (k := 1) rfl rfl (by decide) rfl (fun ls hl => ?_)
          refine lv_goto (tgt := 10) hx hb dX5_endHoldsThatAreOver_41 (by decide) ?_
          exact ih Hsz_11 Hce_12 (z1_13 + (-1)) _ _ _ _ hf hP hD hS (lv_sub hl [1, 0] rfl) hr_10 kx_10
        · have hf := x_f c_19 hf
          refine lv_aload_n hx hb dX5_endHoldsThatAreOver_30 rfl (lv_at hl 0 rfl) ?_
          refine x_get hx hb (C := RX5) (T := TX5) (N := 13) (ci := 5) hts iX5 hown hK hP 0 rfl rfl 1 (by decide) wd0 rfl (.ref a6) rfl dX5_endHoldsThatAreOver_31 ?_
          refine lv_iload_n hx hb dX5_endHoldsThatAreOver_34 rfl (lv_at hl 1 rfl) ?_
          obtain ⟨Hsz_20, Hce_21, h_22, hf⟩ := bd2_el hf
          refine x_callVv (As := [.int z1_13]) (rest := []) ⟨hx, hb, hml, hown, hts⟩ (mX4_remove l D cy a6 a7 Hsz_11 Hla Hce_12 z1_13 Hsz_20 Hce_21 h_22) (cwV 1 hts (gcV_X4_remove hbg wm_13_0) rfl rfl rfl kdX4_remove ⟨Nat.le_of_ble_eq_true rfl, Nat.le_of_ble_eq_true rfl⟩) (w1 := [(a0, .inr (5, [.ref a1, .ref a6, .ref a8, .ref a10, .int day, .int lim, .int low, .int hig, .int thr, .long off, .long cre, .long rcp, .long pay]))] ++ (wX0 cy a1 a2 a3 a4 a5 Asz Anu Aba Amo Aco)) (w2 := wX4 cy a8 a9 Bsz Bla Bce ++ (wX6 cy a10 a11 Tma Tlc Ttc)) (w' := wX5 cy a0 a1 a2 a3 a4 a5 a6 a7 a8 a9 a10 a11 Asz Anu Aba Amo Aco Hsz_20 Hla Hce_21 Bsz Bla Bce Tma Tlc Ttc day lim low hig thr off cre rcp pay) rfl rfl hP hK hD hN hS hA (q0 := 0) rfl rfl rfl rfl hl rfl (Nat.le_of_ble_eq_true rfl) dX5_endHoldsThatAreOver_35 ⟨Nat.zero_le _, Nat.zero_le _⟩ (fun H locs hP hD hS => ?_)
          refine lv_iinc (v := (z1_13 + (-1))) (lv' := [(1, .int (z1_13 + (-1))), (0, .ref a0)]) hx hb dX5_endHoldsThatAreOver_38 hl (k := 1) rfl rfl (by decide) rfl (fun ls hl => ?_)
          refine lv_goto (tgt := 10) hx hb dX5_endHoldsThatAreOver_41 (by decide) ?_
          exact ih Hsz_20 Hce_21 (z1_13 + (-1)) _ _ _ _ hf hP hD hS (lv_sub hl [1, 0] rfl) hr_10 kx_10
  obtain ⟨Hsz_9, Hce_10, h1_10, hf⟩ := bd2_el hf
  refine hL_10 2147483648 Hsz Hce x1_1 _ _ _ _ h1_10 hP hD hS (lv_sub hl [1, 0] rfl) trivial (fun Hsz_99 Hce_109 ho H locs ls hP hD hS hl => ?_)
  cases ho
  have hf := Option.some.inj hf
  cases hf
  exact x_vret hx hb hr hlocks hK hP hD hS dX5_endHoldsThatAreOver_44
theorem kdX5_letPass : yX5_letPass.cls = RX5 ∧ yX5_letPass.cls ≠ "java/lang/invoke/MethodHandle" ∧ yX5_letPass.cls ≠ "java/lang/invoke/VarHandle" ∧ (parseMethodDescriptor yX5_letPass.desc).map (fun d => d.parameters.length) = some 1 := by decide +kernel
def rmX5_letPass : Room := { frames := 5, cells := 0, slots := 0, locals := 118 }
set_option maxHeartbeats 4000000 in
set_option maxRecDepth 100000 in
theorem mX5_letPass (l : Launch) (D : va_G) (cy : Nat → ClassId) (a0 a1 a2 a3 a4 a5 a6 a7 a8 a9 a10 a11 : Nat) (Asz : Int32) (Anu : Nat → Int32) (Aba : Nat → Int32) (Amo : Nat → Int32) (Aco : Nat → Int64) (Hsz : Int32) (Hla : Int32) (Hce : Nat → Int32) (Bsz : Int32) (Bla : Int32) (Bce : Nat → Int32) (Tma : Int32) (Tlc : Int32) (Ttc : Nat → Int32) (day : Int32) (lim : Int32) (low : Int32) (hig : Int32) (thr : Int32) (off : Int64) (cre : Int64) (rcp : Int64) (pay : Int64) (p1 : Int32) (r : Int64) (Aba' : Nat → Int32) (Amo' : Nat → Int32) (Aco' : Nat → Int64) (Hsz' : Int32) (Hce' : Nat → Int32) (Tma' : Int32) (Tlc' : Int32) (Ttc' : Nat → Int32) (day' : Int32) (cre' : Int64) (hf : fX5_letPass Asz Anu Aba Amo Aco Hsz Hce Tma Tlc Ttc day lim low hig thr cre p1 = some (r, Aba', Amo', Aco', Hsz', Hce', Tma', Tlc', Ttc', day', cre')) : xMl l D cy yX5_letPass aX5_letPass rmX5_letPass ([.ref a0, .int p1] : List Value) (wX5 cy a0 a1 a2 a3 a4 a5 a6 a7 a8 a9 a10 a11 Asz Anu Aba Amo Aco Hsz Hla Hce Bsz Bla Bce Tma Tlc Ttc day lim low hig thr off cre rcp pay) (wX5 cy a0 a1 a2 a3 a4 a5 a6 a7 a8 a9 a10 a11 Asz Anu Aba' Amo' Aco' Hsz' Hla Hce' Bsz Bla Bce Tma' Tlc' Ttc' day' lim low hig thr off cre' rcp pay) r := by
  intro hz
  refine x_start (Qc := xQl D cy _ r) (cc := cX5_letPass) (maxL := 6) (ret := (some .long)) (by decide) rfl (Nat.le_of_ble_eq_true rfl) (lv := [(0, .ref a0), (1, .int p1)]) rfl ?_
  intro p e s m below meth c ls A hx hb hr hml hown hts hlocks hK hP hD hS hA hN hl
  have hown : s.vm.findClass RX5 = some m.cls := hown
  have hbg : ∀ w ∈ wsL_law, w ∈ aX5_letPass := fun w h => List.mem_cons_of_mem _ h
  have wd0 : (Cond.constantLong RX5 131 (-2)).before ([.ref a0, .int p1] : List Value).toArray s = true := hts _ (List.mem_cons_of_mem _ wm_16_3)
  have wd1 : (Cond.fieldLink RX5 35 "ClientMoneyBook$State" "day" "I").before ([.ref a0, .int p1] : List Value).toArray s = true := hts _ (List.mem_cons_of_mem _ wm_2_6)
  have wd2 : (Cond.fieldLink RX5 56 "ClientMoneyBook$State" "credited" "J").before ([.ref a0, .int p1] : List Value).toArray s = true := hts _ (List.mem_cons_of_mem _ wm_2_13)
  have wd3 : (Cond.initialized RX7).before ([.ref a0, .int p1] : List Value).toArray s = true := hts _ (List.mem_cons_of_mem _ wm_0_2)
  have wd4 : (Cond.static yX7_nextCreditDay).before ([.ref a0, .int p1] : List Value).toArray s = true := hts _ (List.mem_cons_of_mem _ wm_14_17)
  have wd5 : (Cond.constantLong RX5 133 (-4)).before ([.ref a0, .int p1] : List Value).toArray s = true := hts _ (List.mem_cons_of_mem _ wm_16_4)
  have iX5 : ∀ w ∈ u_ws RX5 TX5 13, w ∈ aX5_letPass := fun w h => List.mem_cons_of_mem _ (inlX5 w h)
  unfold fX5_letPass at hf
  refine lv_iload_n hx hb dX5_letPass_0 rfl (lv_at hl 1 rfl) ?_
  refine lv_iconst (v := 1) hx hb dX5_letPass_1 (by decide) ?_
  refine lv_icmp_lt (tgt := 12) hx hb dX5_letPass_2 (by decide) (fun c_1 => ?_) (fun c_1 => ?_)
  · have hf := x_t c_1 hf
    refine lv_ldc2 hx hb hown wd0 dX5_letPass_12 ?_
    have hf := Option.some.inj hf
    cases hf
    exact x_lret hx hb hr hlocks hK hP hD hS dX5_letPass_15
  · have hf := x_f c_1 hf
    refine lv_iload_n hx hb dX5_letPass_5 rfl (lv_at hl 1 rfl) ?_
    refine lv_sipush (v := 400) hx hb dX5_letPass_6 (by decide) ?_
    refine lv_icmp_le (tgt := 16) hx hb dX5_letPass_9 (by decide) (fun c_2 => ?_) (fun c_2 => ?_)
    · have hf := x_t c_2 hf
      refine lv_aload_n hx hb dX5_letPass_16 rfl (lv_at hl 0 rfl) ?_
      refine x_get hx hb (C := RX5) (T := TX5) (N := 13) (ci := 5) hts iX5 hown hK hP 0 rfl rfl 4 (by decide) wd1 rfl (.int day) rfl dX5_letPass_17 ?_
      refine lv_iload_n hx hb dX5_letPass_20 rfl (lv_at hl 1 rfl) ?_
      refine lv_iadd hx hb dX5_letPass_21 ?_
      obtain ⟨x2_3, ex2_3, hf⟩ := lt_el hf
      refine x_topi ex2_3 ?_
      refine lv_istore_n (lv' := [(2, .int x2_3), (0, .ref a0), (1, .int p1)]) hx hb dX5_letPass_22 rfl hl (by decide) rfl (fun ls hl => ?_)
      refine lv_iload_n hx hb dX5_letPass_23 rfl (lv_at hl 0 rfl) ?_
      refine lv_sipush (v := 9999) hx hb dX5_letPass_24 (by decide) ?_
      refine lv_icmp_le (tgt := 34) hx hb dX5_letPass_27 (by decide) (fun c_4 => ?_) (fun c_4 => ?_)
      · have hf := x_t c_4 hf
        refine lv_aload_n hx hb dX5_letPass_34 rfl (lv_at hl 1 rfl) ?_
        refine x_get hx hb (C := RX5) (T := TX5) (N := 13) (ci := 5) hts iX5 hown hK hP 0 rfl rfl 10 (by decide) wd2 rfl (.long cre) rfl dX5_letPass_35 ?_
        refine lv_lstore_n (lv' := [(3, .long cre), (2, .int x2_3), (0, .ref a0), (1, .int p1)]) hx hb dX5_letPass_38 rfl hl (by decide) rfl (fun ls hl => ?_)
        refine lv_aload_n hx hb dX5_letPass_39 rfl (lv_at hl 2 rfl) ?_
        refine x_get hx hb (C := RX5) (T := TX5) (N := 13) (ci := 5) hts iX5 hown hK hP 0 rfl rfl 4 (by decide) wd1 rfl (.int day) rfl dX5_letPass_40 ?_
        obtain ⟨r_5, h_6, hf⟩ := bd1_el hf
        refine x_callNi (As := [.int day]) (rest := []) ⟨hx, hb, hml, hown, hts⟩ (mX7_nextCreditDay l D cy   day r_5 h_6) ⟨va_cnB 1 hts (gcB_X7_nextCreditDay hbg) rfl rfl rfl (nb_use hN 1 rfl) wd3 kdX7_nextCreditDay ⟨Nat.le_of_ble_eq_true rfl, Nat.le_of_ble_eq_true rfl⟩, wd4, trivial⟩ (w1 := []) (w2 := wX5 cy a0 a1 a2 a3 a4 a5 a6 a7 a8 a9 a10 a11 Asz Anu Aba Amo Aco Hsz Hla Hce Bsz Bla Bce Tma Tlc Ttc day lim low hig thr off cre rcp pay) (w' := wX5 cy a0 a1 a2 a3 a4 a5 a6 a7 a8 a9 a10 a11 Asz Anu Aba Amo Aco Hsz Hla Hce Bsz Bla Bce Tma Tlc Ttc day lim low hig thr off cre rcp pay) rfl rfl hP hK hD hN hS hA rfl hl rfl (Nat.le_of_ble_eq_true rfl) dX5_letPass_43 ⟨Nat.zero_le _, Nat.zero_le _⟩ (fun H locs hP hD hS => ?_)
        refine lv_istore (lv' := [(5, .int r_5), (3, .long cre), (2, .int x2_3), (0, .ref a0), (1, .int p1)]) hx hb dX5_letPass_46 hl (by decide) rfl (fun ls hl => ?_)
        have hL_48 : ∀ (n : Nat) (Aba_33 : Nat → Int32) (Amo_34 : Nat → Int32) (Aco_35 : Nat → Int64) (Tma_36 : Int32) (Tlc_37 : Int32) (Ttc_38 : Nat → Int32) (day_39 : Int32) (cre_40 : Int64) (z5_41 : Int32) (o : (Nat → Int32) × (Nat → Int32) × (Nat → Int64) × Int32 × Int32 × (Nat → Int32) × Int32 × Int64) (H : Heap) (locs : List Loc) (ls : Array Slot), fX5_letPass_L48 Asz Anu lim low hig thr x2_3 cre n Aba_33 Amo_34 Aco_35 Tma_36 Tlc_37 Ttc_38 day_39 cre_40 z5_41 = some o → va_P D vwCl (wX5 cy a0 a1 a2 a3 a4 a5 a6 a7 a8 a9 a10 a11 Asz Anu Aba_33 Amo_34 Aco_35 Hsz Hla Hce Bsz Bla Bce Tma_36 Tlc_37 Ttc_38 day_39 lim low hig thr off cre_40 rcp pay) H → va_D A (wX5 cy a0 a1 a2 a3 a4 a5 a6 a7 a8 a9 a10 a11 Asz Anu Aba_33 Amo_34 Aco_35 Hsz Hla Hce Bsz Bla Bce Tma_36 Tlc_37 Ttc_38 day_39 lim low hig thr off cre_40 rcp pay) → va_S A s.heap H locs → lv_has ls 6 [(0, .ref a0), (2, .int x2_3), (3, .long cre), (5, .int z5_41)] → True → ((∀ (Aba_42 : Nat → Int32) (Amo_43 : Nat → Int32) (Aco_44 : Nat → Int64) (Tma_45 : Int32) (Tlc_46 : Int32) (Ttc_47 : Nat → Int32) (day_48 : Int32) (cre_49 : Int64) , o = (Aba_42, Amo_43, Aco_44, Tma_45, Tlc_46, Ttc_47, day_48, cre_49) → ∀ (H : Heap) (locs : List Loc) (ls : Array Slot), va_P D vwCl (wX5 cy a0 a1 a2 a3 a4 a5 a6 a7 a8 a9 a10 a11 Asz Anu Aba_42 Amo_43 Aco_44 Hsz Hla Hce Bsz Bla Bce Tma_45 Tlc_46 Ttc_47 day_48 lim low hig thr off cre_49 rcp pay) H → va_D A (wX5 cy a0 a1 a2 a3 a4 a5 a6 a7 a8 a9 a10 a11 Asz Anu Aba_42 Amo_43 Aco_44 Hsz Hla Hce Bsz Bla Bce Tma_45 Tlc_46 Ttc_47 day_48 lim low hig thr off cre_49 rcp pay) → va_S A s.heap H locs → lv_has ls 6 [(0, .ref a0), (2, .int x2_3), (3, .long cre)] →  W p l e rmX5_letPass s m ([.ref a0, .int p1] : List Value).toArray below meth c H locs 0 0 (MQ below (xQl D cy (wX5 cy a0 a1 a2 a3 a4 a5 a6 a7 a8 a9 a10 a11 Asz Anu Aba' Amo' Aco' Hsz' Hla Hce' Bsz Bla Bce Tma' Tlc' Ttc' day' lim low hig thr off cre' rcp pay) r A) ([.ref a0, .int p1] : List Value).toArray s 0 0 A) (F0 m 70 ls []))) → W p l e rmX5_letPass s m ([.ref a0, .int p1] : List Value).toArray below meth c H locs 0 0 (MQ below (xQl D cy (wX5 cy a0 a1 a2 a3 a4 a5 a6 a7 a8 a9 a10 a11 Asz Anu Aba' Amo' Aco' Hsz' Hla Hce' Bsz Bla Bce Tma' Tlc' Ttc' day' lim low hig thr off cre' rcp pay) r A) ([.ref a0, .int p1] : List Value).toArray s 0 0 A) (F0 m 48 ls []) := by
          intro n
          induction n with
          | zero =>
            intro Aba_33 Amo_34 Aco_35 Tma_36 Tlc_37 Ttc_38 day_39 cre_40 z5_41 o_48 H locs ls hf
            rw [fX5_letPass_L48] at hf
            cases hf
          | succ n ih =>
            intro Aba_33 Amo_34 Aco_35 Tma_36 Tlc_37 Ttc_38 day_39 cre_40 z5_41 o_48 H locs ls hf hP hD hS hl hr_48 kx_48
            rw [fX5_letPass_L48] at hf
            refine lv_iload hx hb dX5_letPass_48 (lv_at hl 3 rfl) ?_
            refine lv_iload_n hx hb dX5_letPass_50 rfl (lv_at hl 1 rfl) ?_
            refine lv_icmp_gt (tgt := 70) hx hb dX5_letPass_51 (by decide) (fun c_50 => ?_) (fun c_50 => ?_)
            · have hf := x_t c_50 hf
              exact kx_48 Aba_33 Amo_34 Aco_35 Tma_36 Tlc_37 Ttc_38 day_39 cre_40 (Option.some.inj hf).symm _ _ _ hP hD hS (lv_sub hl [0, 1, 2] rfl)
            · have hf := x_f c_50 hf
              refine lv_aload_n hx hb dX5_letPass_54 rfl (lv_at hl 0 rfl) ?_
              refine lv_iload hx hb dX5_letPass_55 (lv_at hl 3 rfl) ?_
              obtain ⟨Aco_51, day_52, h_53, hf⟩ := bd2_el hf
              refine x_callVv (As := [.int z5_41]) (rest := []) ⟨hx, hb, hml, hown, hts⟩ (mX5_growUntil l D cy a0 a1 a2 a3 a4 a5 a6 a7 a8 a9 a10 a11 Asz Anu Aba_33 Amo_34 Aco_35 Hsz Hla Hce Bsz Bla Bce Tma_36 Tlc_37 Ttc_38 day_39 lim low hig thr off cre_40 rcp pay z5_41 Aco_51 day_52 h_53) (cwV 1 hts (gcV_X5_growUntil hbg wm_16_5) rfl rfl rfl kdX5_growUntil ⟨Nat.le_of_ble_eq_true rfl, Nat.le_of_ble_eq_true rfl⟩) (w1 := []) (w2 := []) (w' := wX5 cy a0 a1 a2 a3 a4 a5 a6 a7 a8 a9 a10 a11 Asz Anu Aba_33 Amo_34 Aco_51 Hsz Hla Hce Bsz Bla Bce Tma_36 Tlc_37 Ttc_38 day_52 lim low hig thr off cre_40 rcp pay) (List.append_nil _) (List.append_nil _) hP hK hD hN hS hA (q0 := 0) rfl rfl rfl rfl hl rfl (Nat.le_of_ble_eq_true rfl) dX5_letPass_57 ⟨Nat.zero_le _, Nat.zero_le _⟩ (fun H locs hP hD hS => ?_)
              refine lv_aload_n hx hb dX5_letPass_60 rfl (lv_at hl 0 rfl) ?_
              obtain ⟨Aba_54, Amo_55, Aco_56, Tma_57, Tlc_58, Ttc_59, cre_60, h_61, hf⟩ := bd7_el hf
              refine x_callVv (As := []) (rest := []) ⟨hx, hb, hml, hown, hts⟩ (mX5_creditAll l D cy a0 a1 a2 a3 a4 a5 a6 a7 a8 a9 a10 a11 Asz Anu Aba_33 Amo_34 Aco_51 Hsz Hla Hce Bsz Bla Bce Tma_36 Tlc_37 Ttc_38 day_52 lim low hig thr off cre_40 rcp pay  Aba_54 Amo_55 Aco_56 Tma_57 Tlc_58 Ttc_59 cre_60 h_61) (cwV 0 hts (gcV_X5_creditAll hbg wm_16_13) rfl rfl rfl kdX5_creditAll ⟨Nat.le_of_ble_eq_true rfl, Nat.le_of_ble_eq_true rfl⟩) (w1 := []) (w2 := []) (w' := wX5 cy a0 a1 a2 a3 a4 a5 a6 a7 a8 a9 a10 a11 Asz Anu Aba_54 Amo_55 Aco_56 Hsz Hla Hce Bsz Bla Bce Tma_57 Tlc_58 Ttc_59 day_52 lim low hig thr off cre_60 rcp pay) (List.append_nil _) (List.append_nil _) hP hK hD hN hS hA (q0 := 0) rfl rfl rfl rfl hl rfl (Nat.le_of_ble_eq_true rfl) dX5_letPass_61 ⟨Nat.zero_le _, Nat.zero_le _⟩ (fun H locs hP hD hS => ?_)
              refine lv_iinc (v := (z5_41 + 30)) (lv' := [(5, .int (z5_41 + 30)), (0, .ref a0), (2, .int x2_3), (3, .long cre)]) hx hb dX5_letPass_64 hl (k := 3) rfl rfl (by decide) rfl (fun ls hl => ?_)
              refine lv_goto (tgt := 48) hx hb dX5_letPass_67 (by decide) ?_
              exact ih Aba_54 Amo_55 Aco_56 Tma_57 Tlc_58 Ttc_59 day_52 cre_60 (z5_41 + 30) _ _ _ _ hf hP hD hS (lv_sub hl [1, 2, 3, 0] rfl) hr_48 kx_48
        obtain ⟨Aba_19, Amo_20, Aco_21, Tma_22, Tlc_23, Ttc_24, day_25, cre_26, h1_48, hf⟩ := bd8_el hf
        refine hL_48 2147483648 Aba Amo Aco Tma Tlc Ttc day cre r_5 _ _ _ _ h1_48 hP hD hS (lv_sub hl [3, 2, 1, 0] rfl) trivial (fun Aba_199 Amo_209 Aco_219 Tma_229 Tlc_239 Ttc_249 day_259 cre_269 ho H locs ls hP hD hS hl => ?_)
        cases ho
        refine lv_aload_n hx hb dX5_letPass_70 rfl (lv_at hl 0 rfl) ?_
        refine lv_iload_n hx hb dX5_letPass_71 rfl (lv_at hl 1 rfl) ?_
        obtain ⟨Aco_27, day_28, h_29, hf⟩ := bd2_el hf
        refine x_callVv (As := [.int x2_3]) (rest := []) ⟨hx, hb, hml, hown, hts⟩ (mX5_growUntil l D cy a0 a1 a2 a3 a4 a5 a6 a7 a8 a9 a10 a11 Asz Anu Aba_19 Amo_20 Aco_21 Hsz Hla Hce Bsz Bla Bce Tma_22 Tlc_23 Ttc_24 day_25 lim low hig thr off cre_26 rcp pay x2_3 Aco_27 day_28 h_29) (cwV 1 hts (gcV_X5_growUntil hbg wm_16_5) rfl rfl rfl kdX5_growUntil ⟨Nat.le_of_ble_eq_true rfl, Nat.le_of_ble_eq_true rfl⟩) (w1 := []) (w2 := []) (w' := wX5 cy a0 a1 a2 a3 a4 a5 a6 a7 a8 a9 a10 a11 Asz Anu Aba_19 Amo_20 Aco_27 Hsz Hla Hce Bsz Bla Bce Tma_22 Tlc_23 Ttc_24 day_28 lim low hig thr off cre_26 rcp pay) (List.append_nil _) (List.append_nil _) hP hK hD hN hS hA (q0 := 0) rfl rfl rfl rfl hl rfl (Nat.le_of_ble_eq_true rfl) dX5_letPass_72 ⟨Nat.zero_le _, Nat.zero_le _⟩ (fun H locs hP hD hS => ?_)
        refine lv_aload_n hx hb dX5_letPass_75 rfl (lv_at hl 0 rfl) ?_
        obtain ⟨Hsz_30, Hce_31, h_32, hf⟩ := bd2_el hf
        refine x_callVv (As := []) (rest := []) ⟨hx, hb, hml, hown, hts⟩ (mX5_endHoldsThatAreOver l D cy a0 a1 a2 a3 a4 a5 a6 a7 a8 a9 a10 a11 Asz Anu Aba_19 Amo_20 Aco_27 Hsz Hla Hce Bsz Bla Bce Tma_22 Tlc_23 Ttc_24 day_28 lim low hig thr off cre_26 rcp pay  Hsz_30 Hce_31 h_32) (cwV 0 hts (gcV_X5_endHoldsThatAreOver hbg wm_16_18) rfl rfl rfl kdX5_endHoldsThatAreOver ⟨Nat.le_of_ble_eq_true rfl, Nat.le_of_ble_eq_true rfl⟩) (w1 := []) (w2 := []) (w' := wX5 cy a0 a1 a2 a3 a4 a5 a6 a7 a8 a9 a10 a11 Asz Anu Aba_19 Amo_20 Aco_27 Hsz_30 Hla Hce_31 Bsz Bla Bce Tma_22 Tlc_23 Ttc_24 day_28 lim low hig thr off cre_26 rcp pay) (List.append_nil _) (List.append_nil _) hP hK hD hN hS hA (q0 := 0) rfl rfl rfl rfl hl rfl (Nat.le_of_ble_eq_true rfl) dX5_letPass_76 ⟨Nat.zero_le _, Nat.zero_le _⟩ (fun H locs hP hD hS => ?_)
        refine lv_aload_n hx hb dX5_letPass_79 rfl (lv_at hl 0 rfl) ?_
        refine x_get hx hb (C := RX5) (T := TX5) (N := 13) (ci := 5) hts iX5 hown hK hP 0 rfl rfl 10 (by decide) wd2 rfl (.long cre_26) rfl dX5_letPass_80 ?_
        refine lv_lload_n hx hb dX5_letPass_83 rfl (lv_at hl 2 rfl) ?_
        refine lv_lsub hx hb dX5_letPass_84 ?_
        have hf := Option.some.inj hf
        cases hf
        exact x_lret hx hb hr hlocks hK hP hD hS dX5_letPass_85
      · have hf := x_f c_4 hf
        refine lv_ldc2 hx hb hown wd5 dX5_letPass_30 ?_
        have hf := Option.some.inj hf
        cases hf
        exact x_lret hx hb hr hlocks hK hP hD hS dX5_letPass_33
    · have hf := x_f c_2 hf
      refine lv_ldc2 hx hb hown wd0 dX5_letPass_12 ?_
      have hf := Option.some.inj hf
      cases hf
      exact x_lret hx hb hr hlocks hK hP hD hS dX5_letPass_15
theorem kdX5_reverseEntry : yX5_reverseEntry.cls = RX5 ∧ yX5_reverseEntry.cls ≠ "java/lang/invoke/MethodHandle" ∧ yX5_reverseEntry.cls ≠ "java/lang/invoke/VarHandle" ∧ (parseMethodDescriptor yX5_reverseEntry.desc).map (fun d => d.parameters.length) = some 1 := by decide +kernel
def rmX5_reverseEntry : Room := { frames := 4, cells := 0, slots := 0, locals := 96 }
set_option maxHeartbeats 4000000 in
set_option maxRecDepth 100000 in
theorem mX5_reverseEntry (l : Launch) (D : va_G) (cy : Nat → ClassId) (a0 a1 a2 a3 a4 a5 a6 a7 a8 a9 a10 a11 : Nat) (Asz : Int32) (Anu : Nat → Int32) (Aba : Nat → Int32) (Amo : Nat → Int32) (Aco : Nat → Int64) (Hsz : Int32) (Hla : Int32) (Hce : Nat → Int32) (Bsz : Int32) (Bla : Int32) (Bce : Nat → Int32) (Tma : Int32) (Tlc : Int32) (Ttc : Nat → Int32) (day : Int32) (lim : Int32) (low : Int32) (hig : Int32) (thr : Int32) (off : Int64) (cre : Int64) (rcp : Int64) (pay : Int64) (p1 : Int32) (r : Int32) (Aba' : Nat → Int32) (Amo' : Nat → Int32) (Tma' : Int32) (Tlc' : Int32) (Ttc' : Nat → Int32) (rcp' : Int64) (pay' : Int64) (hf : fX5_reverseEntry Asz Anu Aba Amo Hsz Hce Tma Tlc Ttc day rcp pay p1 = some (r, Aba', Amo', Tma', Tlc', Ttc', rcp', pay')) : xMi l D cy yX5_reverseEntry aX5_reverseEntry rmX5_reverseEntry ([.ref a0, .int p1] : List Value) (wX5 cy a0 a1 a2 a3 a4 a5 a6 a7 a8 a9 a10 a11 Asz Anu Aba Amo Aco Hsz Hla Hce Bsz Bla Bce Tma Tlc Ttc day lim low hig thr off cre rcp pay) (wX5 cy a0 a1 a2 a3 a4 a5 a6 a7 a8 a9 a10 a11 Asz Anu Aba' Amo' Aco Hsz Hla Hce Bsz Bla Bce Tma' Tlc' Ttc' day lim low hig thr off cre rcp' pay') r := by
  intro hz
  refine x_start (Qc := xQi D cy _ r) (cc := cX5_reverseEntry) (maxL := 10) (ret := (some .int)) (by decide) rfl (Nat.le_of_ble_eq_true rfl) (lv := [(0, .ref a0), (1, .int p1)]) rfl ?_
  intro p e s m below meth c ls A hx hb hr hml hown hts hlocks hK hP hD hS hA hN hl
  have hown : s.vm.findClass RX5 = some m.cls := hown
  have hbg : ∀ w ∈ wsL_law, w ∈ aX5_reverseEntry := fun w h => List.mem_cons_of_mem _ h
  have wd0 : (Cond.fieldLink RX5 31 "ClientMoneyBook$State" "trail" "LClientMoneyBook$Trail;").before ([.ref a0, .int p1] : List Value).toArray s = true := hts _ (List.mem_cons_of_mem _ wm_2_5)
  have wd1 : (Cond.fieldLink RX5 12 "ClientMoneyBook$State" "accounts" "LClientMoneyBook$Accounts;").before ([.ref a0, .int p1] : List Value).toArray s = true := hts _ (List.mem_cons_of_mem _ wm_1_20)
  have wd2 : (Cond.fieldLink RX5 154 "ClientMoneyBook$Trail" "made" "I").before ([.ref a0, .int p1] : List Value).toArray s = true := hts _ (List.mem_cons_of_mem _ wm_18_1)
  have wd3 : (Cond.fieldLink RX5 62 "ClientMoneyBook$State" "payments" "J").before ([.ref a0, .int p1] : List Value).toArray s = true := hts _ (List.mem_cons_of_mem _ wm_2_15)
  have wd4 : (Cond.fieldLink RX5 59 "ClientMoneyBook$State" "receipts" "J").before ([.ref a0, .int p1] : List Value).toArray s = true := hts _ (List.mem_cons_of_mem _ wm_2_14)
  have wd5 : (Cond.constant RX5 75 (1000000000)).before ([.ref a0, .int p1] : List Value).toArray s = true := hts _ (List.mem_cons_of_mem _ wm_8_9)
  have iX5 : ∀ w ∈ u_ws RX5 TX5 13, w ∈ aX5_reverseEntry := fun w h => List.mem_cons_of_mem _ (inlX5 w h)
  have iX6 : ∀ w ∈ u_ws RX6 TX6 3, w ∈ aX5_reverseEntry := fun w h => List.mem_cons_of_mem _ (inlX6 w h)
  have hfX5_reverseEntry_J41 : ∀ (Abaj : Nat → Int32) (Amoj : Nat → Int32) (Tmaj : Int32) (Tlcj : Int32) (Ttcj : Nat → Int32) (rcpj : Int64) (payj : Int64) (H : Heap) (locs : List Loc) (ls : Array Slot), fX5_reverseEntry_J41 Asz Anu Abaj Amoj Hsz Hce Tmaj Tlcj Ttcj day rcpj payj = some (r, Aba', Amo', Tma', Tlc', Ttc', rcp', pay') → va_P D vwCl (wX5 cy a0 a1 a2 a3 a4 a5 a6 a7 a8 a9 a10 a11 Asz Anu Abaj Amoj Aco Hsz Hla Hce Bsz Bla Bce Tmaj Tlcj Ttcj day lim low hig thr off cre rcpj payj) H → va_D A (wX5 cy a0 a1 a2 a3 a4 a5 a6 a7 a8 a9 a10 a11 Asz Anu Abaj Amoj Aco Hsz Hla Hce Bsz Bla Bce Tmaj Tlcj Ttcj day lim low hig thr off cre rcpj payj) → va_S A s.heap H locs → lv_has ls 10 [] → W p l e rmX5_reverseEntry s m ([.ref a0, .int p1] : List Value).toArray below meth c H locs 0 0 (MQ below (xQi D cy (wX5 cy a0 a1 a2 a3 a4 a5 a6 a7 a8 a9 a10 a11 Asz Anu Aba' Amo' Aco Hsz Hla Hce Bsz Bla Bce Tma' Tlc' Ttc' day lim low hig thr off cre rcp' pay') r A) ([.ref a0, .int p1] : List Value).toArray s 0 0 A) (F0 m 41 ls []) := by
    intro Abaj Amoj Tmaj Tlcj Ttcj rcpj payj H locs ls hf hP hD hS hl
    unfold fX5_reverseEntry_J41 at hf
    refine lv_bipush (v := (-3)) hx hb dX5_reverseEntry_41 (by decide) ?_
    have hf := Option.some.inj hf
    cases hf
    exact x_iret hx hb hr hlocks hK hP hD hS dX5_reverseEntry_43
  have hfX5_reverseEntry_J101 : ∀ (Abaj : Nat → Int32) (Amoj : Nat → Int32) (Tmaj : Int32) (Tlcj : Int32) (Ttcj : Nat → Int32) (rcpj : Int64) (payj : Int64) (H : Heap) (locs : List Loc) (ls : Array Slot), fX5_reverseEntry_J101 Asz Anu Abaj Amoj Hsz Hce Tmaj Tlcj Ttcj day rcpj payj = some (r, Aba', Amo', Tma', Tlc', Ttc', rcp', pay') → va_P D vwCl (wX5 cy a0 a1 a2 a3 a4 a5 a6 a7 a8 a9 a10 a11 Asz Anu Abaj Amoj Aco Hsz Hla Hce Bsz Bla Bce Tmaj Tlcj Ttcj day lim low hig thr off cre rcpj payj) H → va_D A (wX5 cy a0 a1 a2 a3 a4 a5 a6 a7 a8 a9 a10 a11 Asz Anu Abaj Amoj Aco Hsz Hla Hce Bsz Bla Bce Tmaj Tlcj Ttcj day lim low hig thr off cre rcpj payj) → va_S A s.heap H locs → lv_has ls 10 [] → W p l e rmX5_reverseEntry s m ([.ref a0, .int p1] : List Value).toArray below meth c H locs 0 0 (MQ below (xQi D cy (wX5 cy a0 a1 a2 a3 a4 a5 a6 a7 a8 a9 a10 a11 Asz Anu Aba' Amo' Aco Hsz Hla Hce Bsz Bla Bce Tma' Tlc' Ttc' day lim low hig thr off cre rcp' pay') r A) ([.ref a0, .int p1] : List Value).toArray s 0 0 A) (F0 m 101 ls []) := by
    intro Abaj Amoj Tmaj Tlcj Ttcj rcpj payj H locs ls hf hP hD hS hl
    unfold fX5_reverseEntry_J101 at hf
    refine lv_bipush (v := (-3)) hx hb dX5_reverseEntry_101 (by decide) ?_
    have hf := Option.some.inj hf
    cases hf
    exact x_iret hx hb hr hlocks hK hP hD hS dX5_reverseEntry_103
  have hfX5_reverseEntry_J246 : ∀ (Abaj : Nat → Int32) (Amoj : Nat → Int32) (Tmaj : Int32) (Tlcj : Int32) (Ttcj : Nat → Int32) (rcpj : Int64) (payj : Int64) (z1j : Int32) (z3j : Int32) (z4j : Int32) (z9j : Int32) (H : Heap) (locs : List Loc) (ls : Array Slot), fX5_reverseEntry_J246 Asz Anu Abaj Amoj Hsz Hce Tmaj Tlcj Ttcj day rcpj payj z1j z3j z4j z9j = some (r, Aba', Amo', Tma', Tlc', Ttc', rcp', pay') → va_P D vwCl (wX5 cy a0 a1 a2 a3 a4 a5 a6 a7 a8 a9 a10 a11 Asz Anu Abaj Amoj Aco Hsz Hla Hce Bsz Bla Bce Tmaj Tlcj Ttcj day lim low hig thr off cre rcpj payj) H → va_D A (wX5 cy a0 a1 a2 a3 a4 a5 a6 a7 a8 a9 a10 a11 Asz Anu Abaj Amoj Aco Hsz Hla Hce Bsz Bla Bce Tmaj Tlcj Ttcj day lim low hig thr off cre rcpj payj) → va_S A s.heap H locs → lv_has ls 10 [(0, .ref a0), (1, .int z1j), (3, .int z3j), (4, .int z4j), (9, .int z9j)] → W p l e rmX5_reverseEntry s m ([.ref a0, .int p1] : List Value).toArray below meth c H locs 0 0 (MQ below (xQi D cy (wX5 cy a0 a1 a2 a3 a4 a5 a6 a7 a8 a9 a10 a11 Asz Anu Aba' Amo' Aco Hsz Hla Hce Bsz Bla Bce Tma' Tlc' Ttc' day lim low hig thr off cre rcp' pay') r A) ([.ref a0, .int p1] : List Value).toArray s 0 0 A) (F0 m 246 ls []) := by
    intro Abaj Amoj Tmaj Tlcj Ttcj rcpj payj z1j z3j z4j z9j H locs ls hf hP hD hS hl
    unfold fX5_reverseEntry_J246 at hf
    refine lv_aload_n hx hb dX5_reverseEntry_246 rfl (lv_at hl 0 rfl) ?_
    refine x_get hx hb (C := RX5) (T := TX5) (N := 13) (ci := 5) hts iX5 hown hK hP 0 rfl rfl 3 (by decide) wd0 rfl (.ref a10) rfl dX5_reverseEntry_247 ?_
    refine lv_iload_n hx hb dX5_reverseEntry_250 rfl (lv_at hl 1 rfl) ?_
    obtain ⟨Ttc_59, h_60, hf⟩ := bd1_el hf
    refine x_callVv (As := [.int z1j]) (rest := []) ⟨hx, hb, hml, hown, hts⟩ (mX6_markReversed l D cy a10 a11 Tmaj Tlcj Ttcj z1j Ttc_59 h_60) (cwV 1 hts (gcV_X6_markReversed hbg wm_18_11) rfl rfl rfl kdX6_markReversed ⟨Nat.le_of_ble_eq_true rfl, Nat.le_of_ble_eq_true rfl⟩) (w1 := [(a0, .inr (5, [.ref a1, .ref a6, .ref a8, .ref a10, .int day, .int lim, .int low, .int hig, .int thr, .long off, .long cre, .long rcpj, .long payj]))] ++ (wX0 cy a1 a2 a3 a4 a5 Asz Anu Abaj Amoj Aco ++ (wX4 cy a6 a7 Hsz Hla Hce ++ (wX4 cy a8 a9 Bsz Bla Bce)))) (w2 := []) (w' := wX5 cy a0 a1 a2 a3 a4 a5 a6 a7 a8 a9 a10 a11 Asz Anu Abaj Amoj Aco Hsz Hla Hce Bsz Bla Bce Tmaj Tlcj Ttc_59 day lim low hig thr off cre rcpj payj) (x_end rfl) (x_end rfl) hP hK hD hN hS hA (q0 := 0) rfl rfl rfl rfl hl rfl (Nat.le_of_ble_eq_true rfl) dX5_reverseEntry_251 ⟨Nat.zero_le _, Nat.zero_le _⟩ (fun H locs hP hD hS => ?_)
    refine lv_aload_n hx hb dX5_reverseEntry_254 rfl (lv_at hl 0 rfl) ?_
    refine lv_bipush (v := 6) hx hb dX5_reverseEntry_255 (by decide) ?_
    refine lv_iload_n hx hb dX5_reverseEntry_257 rfl (lv_at hl 2 rfl) ?_
    refine lv_iload hx hb dX5_reverseEntry_258 (lv_at hl 3 rfl) ?_
    refine lv_iload hx hb dX5_reverseEntry_260 (lv_at hl 4 rfl) ?_
    obtain ⟨Amo_61, Tma_62, Tlc_63, Ttc_64, h_65, hf⟩ := bd4_el hf
    refine x_callVv (As := [.int 6, .int z3j, .int z4j, .int z9j]) (rest := []) ⟨hx, hb, hml, hown, hts⟩ (mX5_enter l D cy a0 a1 a2 a3 a4 a5 a6 a7 a8 a9 a10 a11 Asz Anu Abaj Amoj Aco Hsz Hla Hce Bsz Bla Bce Tmaj Tlcj Ttc_59 day lim low hig thr off cre rcpj payj 6 z3j z4j z9j Amo_61 Tma_62 Tlc_63 Ttc_64 h_65) (cwV 4 hts (gcV_X5_enter hbg wm_8_21) rfl rfl rfl kdX5_enter ⟨Nat.le_of_ble_eq_true rfl, Nat.le_of_ble_eq_true rfl⟩) (w1 := []) (w2 := []) (w' := wX5 cy a0 a1 a2 a3 a4 a5 a6 a7 a8 a9 a10 a11 Asz Anu Abaj Amo_61 Aco Hsz Hla Hce Bsz Bla Bce Tma_62 Tlc_63 Ttc_64 day lim low hig thr off cre rcpj payj) (List.append_nil _) (List.append_nil _) hP hK hD hN hS hA (q0 := 0) rfl rfl rfl rfl hl rfl (Nat.le_of_ble_eq_true rfl) dX5_reverseEntry_262 ⟨Nat.zero_le _, Nat.zero_le _⟩ (fun H locs hP hD hS => ?_)
    refine lv_aload_n hx hb dX5_reverseEntry_265 rfl (lv_at hl 0 rfl) ?_
    refine x_get hx hb (C := RX5) (T := TX5) (N := 13) (ci := 5) hts iX5 hown hK hP 0 rfl rfl 3 (by decide) wd0 rfl (.ref a10) rfl dX5_reverseEntry_266 ?_
    refine x_get hx hb (C := RX6) (T := TX6) (N := 3) (ci := 6) hts iX6 hown hK hP 10 rfl rfl 0 (by decide) wd2 rfl (.int Tma_62) rfl dX5_reverseEntry_269 ?_
    have hf := Option.some.inj hf
    cases hf
    exact x_iret hx hb hr hlocks hK hP hD hS dX5_reverseEntry_272
  have hfX5_reverseEntry_J186 : ∀ (Abaj : Nat → Int32) (Amoj : Nat → Int32) (Tmaj : Int32) (Tlcj : Int32) (Ttcj : Nat → Int32) (rcpj : Int64) (payj : Int64) (z1j : Int32) (z2j : Int32) (z3j : Int32) (z4j : Int32) (z7j : Int32) (z8j : Int32) (z9j : Int32) (H : Heap) (locs : List Loc) (ls : Array Slot), fX5_reverseEntry_J186 Asz Anu Abaj Amoj Hsz Hce Tmaj Tlcj Ttcj day rcpj payj z1j z2j z3j z4j z7j z8j z9j = some (r, Aba', Amo', Tma', Tlc', Ttc', rcp', pay') → va_P D vwCl (wX5 cy a0 a1 a2 a3 a4 a5 a6 a7 a8 a9 a10 a11 Asz Anu Abaj Amoj Aco Hsz Hla Hce Bsz Bla Bce Tmaj Tlcj Ttcj day lim low hig thr off cre rcpj payj) H → va_D A (wX5 cy a0 a1 a2 a3 a4 a5 a6 a7 a8 a9 a10 a11 Asz Anu Abaj Amoj Aco Hsz Hla Hce Bsz Bla Bce Tmaj Tlcj Ttcj day lim low hig thr off cre rcpj payj) → va_S A s.heap H locs → lv_has ls 10 [(0, .ref a0), (1, .int z1j), (2, .int z2j), (3, .int z3j), (4, .int z4j), (7, .int z7j), (8, .int z8j), (9, .int z9j)] → W p l e rmX5_reverseEntry s m ([.ref a0, .int p1] : List Value).toArray below meth c H locs 0 0 (MQ below (xQi D cy (wX5 cy a0 a1 a2 a3 a4 a5 a6 a7 a8 a9 a10 a11 Asz Anu Aba' Amo' Aco Hsz Hla Hce Bsz Bla Bce Tma' Tlc' Ttc' day lim low hig thr off cre rcp' pay') r A) ([.ref a0, .int p1] : List Value).toArray s 0 0 A) (F0 m 186 ls []) := by
    intro Abaj Amoj Tmaj Tlcj Ttcj rcpj payj z1j z2j z3j z4j z7j z8j z9j H locs ls hf hP hD hS hl
    unfold fX5_reverseEntry_J186 at hf
    refine lv_aload_n hx hb dX5_reverseEntry_186 rfl (lv_at hl 0 rfl) ?_
    refine x_get hx hb (C := RX5) (T := TX5) (N := 13) (ci := 5) hts iX5 hown hK hP 0 rfl rfl 0 (by decide) wd1 rfl (.ref a1) rfl dX5_reverseEntry_187 ?_
    refine lv_iload hx hb dX5_reverseEntry_190 (lv_at hl 5 rfl) ?_
    refine lv_iload hx hb dX5_reverseEntry_192 (lv_at hl 7 rfl) ?_
    refine lv_ineg hx hb dX5_reverseEntry_194 ?_
    obtain ⟨Aba_53, h_54, hf⟩ := bd1_el hf
    refine x_callVv (As := [.int z7j, .int (-z9j)]) (rest := []) ⟨hx, hb, hml, hown, hts⟩ (mX0_add l D cy a1 a2 a3 a4 a5 Asz Anu Abaj Amoj Aco z7j (-z9j) Aba_53 h_54) (cwV 2 hts (gcV_X0_add hbg wm_8_17) rfl rfl rfl kdX0_add ⟨Nat.le_of_ble_eq_true rfl, Nat.le_of_ble_eq_true rfl⟩) (w1 := [(a0, .inr (5, [.ref a1, .ref a6, .ref a8, .ref a10, .int day, .int lim, .int low, .int hig, .int thr, .long off, .long cre, .long rcpj, .long payj]))]) (w2 := wX4 cy a6 a7 Hsz Hla Hce ++ (wX4 cy a8 a9 Bsz Bla Bce ++ (wX6 cy a10 a11 Tmaj Tlcj Ttcj))) (w' := wX5 cy a0 a1 a2 a3 a4 a5 a6 a7 a8 a9 a10 a11 Asz Anu Aba_53 Amoj Aco Hsz Hla Hce Bsz Bla Bce Tmaj Tlcj Ttcj day lim low hig thr off cre rcpj payj) rfl rfl hP hK hD hN hS hA (q0 := 0) rfl rfl rfl rfl hl rfl (Nat.le_of_ble_eq_true rfl) dX5_reverseEntry_195 ⟨Nat.zero_le _, Nat.zero_le _⟩ (fun H locs hP hD hS => ?_)
    refine lv_aload_n hx hb dX5_reverseEntry_198 rfl (lv_at hl 0 rfl) ?_
    refine x_get hx hb (C := RX5) (T := TX5) (N := 13) (ci := 5) hts iX5 hown hK hP 0 rfl rfl 0 (by decide) wd1 rfl (.ref a1) rfl dX5_reverseEntry_199 ?_
    refine lv_iload hx hb dX5_reverseEntry_202 (lv_at hl 6 rfl) ?_
    refine lv_iload hx hb dX5_reverseEntry_204 (lv_at hl 7 rfl) ?_
    obtain ⟨Aba_55, h_56, hf⟩ := bd1_el hf
    refine x_callVv (As := [.int z8j, .int z9j]) (rest := []) ⟨hx, hb, hml, hown, hts⟩ (mX0_add l D cy a1 a2 a3 a4 a5 Asz Anu Aba_53 Amoj Aco z8j z9j Aba_55 h_56) (cwV 2 hts (gcV_X0_add hbg wm_8_17) rfl rfl rfl kdX0_add ⟨Nat.le_of_ble_eq_true rfl, Nat.le_of_ble_eq_true rfl⟩) (w1 := [(a0, .inr (5, [.ref a1, .ref a6, .ref a8, .ref a10, .int day, .int lim, .int low, .int hig, .int thr, .long off, .long cre, .long rcpj, .long payj]))]) (w2 := wX4 cy a6 a7 Hsz Hla Hce ++ (wX4 cy a8 a9 Bsz Bla Bce ++ (wX6 cy a10 a11 Tmaj Tlcj Ttcj))) (w' := wX5 cy a0 a1 a2 a3 a4 a5 a6 a7 a8 a9 a10 a11 Asz Anu Aba_55 Amoj Aco Hsz Hla Hce Bsz Bla Bce Tmaj Tlcj Ttcj day lim low hig thr off cre rcpj payj) rfl rfl hP hK hD hN hS hA (q0 := 0) rfl rfl rfl rfl hl rfl (Nat.le_of_ble_eq_true rfl) dX5_reverseEntry_206 ⟨Nat.zero_le _, Nat.zero_le _⟩ (fun H locs hP hD hS => ?_)
    refine lv_iload_n hx hb dX5_reverseEntry_209 rfl (lv_at hl 2 rfl) ?_
    refine lv_iconst (v := 1) hx hb dX5_reverseEntry_210 (by decide) ?_
    refine lv_icmp_ne (tgt := 229) hx hb dX5_reverseEntry_211 (by decide) (fun c_57 => ?_) (fun c_57 => ?_)
    · have hf := x_f c_57 hf
      refine lv_iload_n hx hb dX5_reverseEntry_229 rfl (lv_at hl 2 rfl) ?_
      refine lv_iconst (v := 2) hx hb dX5_reverseEntry_230 (by decide) ?_
      refine lv_icmp_ne (tgt := 246) hx hb dX5_reverseEntry_231 (by decide) (fun c_58 => ?_) (fun c_58 => ?_)
      · have hf := x_f c_58 hf
        exact hfX5_reverseEntry_J246 Aba_55 Amoj Tmaj Tlcj Ttcj rcpj payj z1j z3j z4j z9j _ _ _ hf hP hD hS (lv_sub hl [0, 1, 3, 4, 7] rfl)
      · have hf := x_t c_58 hf
        refine lv_aload_n hx hb dX5_reverseEntry_234 rfl (lv_at hl 0 rfl) ?_
        refine lv_dup hx hb dX5_reverseEntry_235 rfl ?_
        refine x_get hx hb (C := RX5) (T := TX5) (N := 13) (ci := 5) hts iX5 hown hK hP 0 rfl rfl 12 (by decide) wd3 rfl (.long payj) rfl dX5_reverseEntry_236 ?_
        refine lv_iload hx hb dX5_reverseEntry_239 (lv_at hl 7 rfl) ?_
        refine lv_i2l (v := z9j.toInt64) hx hb dX5_reverseEntry_241 rfl ?_
        refine lv_lsub hx hb dX5_reverseEntry_242 ?_
        obtain ⟨pay_66, epay_66, hf⟩ := lt_el hf
        refine x_topl epay_66 ?_
        refine x_put hx hb (C := RX5) (T := TX5) (N := 13) (ci := 5) hts iX5 tyX5 tyX5_ok nmX5 hown hK hP hD hS 0 rfl rfl 12 (by decide) wd3 rfl rfl (ty := .long) rfl rfl rfl (Nat.le_of_ble_eq_true rfl) (w' := wX5 cy a0 a1 a2 a3 a4 a5 a6 a7 a8 a9 a10 a11 Asz Anu Aba_55 Amoj Aco Hsz Hla Hce Bsz Bla Bce Tmaj Tlcj Ttcj day lim low hig thr off cre rcpj pay_66) rfl dX5_reverseEntry_243 (fun H locs hP hD hS => ?_)
        exact hfX5_reverseEntry_J246 Aba_55 Amoj Tmaj Tlcj Ttcj rcpj pay_66 z1j z3j z4j z9j _ _ _ hf hP hD hS (lv_sub hl [0, 1, 3, 4, 7] rfl)
    · have hf := x_t c_57 hf
      refine lv_aload_n hx hb dX5_reverseEntry_214 rfl (lv_at hl 0 rfl) ?_
      refine lv_dup hx hb dX5_reverseEntry_215 rfl ?_
      refine x_get hx hb (C := RX5) (T := TX5) (N := 13) (ci := 5) hts iX5 hown hK hP 0 rfl rfl 11 (by decide) wd4 rfl (.long rcpj) rfl dX5_reverseEntry_216 ?_
      refine lv_iload hx hb dX5_reverseEntry_219 (lv_at hl 7 rfl) ?_
      refine lv_i2l (v := z9j.toInt64) hx hb dX5_reverseEntry_221 rfl ?_
      refine lv_lsub hx hb dX5_reverseEntry_222 ?_
      obtain ⟨rcp_67, ercp_67, hf⟩ := lt_el hf
      refine x_topl ercp_67 ?_
      refine x_put hx hb (C := RX5) (T := TX5) (N := 13) (ci := 5) hts iX5 tyX5 tyX5_ok nmX5 hown hK hP hD hS 0 rfl rfl 11 (by decide) wd4 rfl rfl (ty := .long) rfl rfl rfl (Nat.le_of_ble_eq_true rfl) (w' := wX5 cy a0 a1 a2 a3 a4 a5 a6 a7 a8 a9 a10 a11 Asz Anu Aba_55 Amoj Aco Hsz Hla Hce Bsz Bla Bce Tmaj Tlcj Ttcj day lim low hig thr off cre rcp_67 payj) rfl dX5_reverseEntry_223 (fun H locs hP hD hS => ?_)
      refine lv_goto (tgt := 246) hx hb dX5_reverseEntry_226 (by decide) ?_
      exact hfX5_reverseEntry_J246 Aba_55 Amoj Tmaj Tlcj Ttcj rcp_67 payj z1j z3j z4j z9j _ _ _ hf hP hD hS (lv_sub hl [0, 1, 3, 4, 7] rfl)
  have hfX5_reverseEntry_J161 : ∀ (Abaj : Nat → Int32) (Amoj : Nat → Int32) (Tmaj : Int32) (Tlcj : Int32) (Ttcj : Nat → Int32) (rcpj : Int64) (payj : Int64) (z1j : Int32) (z2j : Int32) (z3j : Int32) (z4j : Int32) (z7j : Int32) (z8j : Int32) (z9j : Int32) (H : Heap) (locs : List Loc) (ls : Array Slot), fX5_reverseEntry_J161 Asz Anu Abaj Amoj Hsz Hce Tmaj Tlcj Ttcj day rcpj payj z1j z2j z3j z4j z7j z8j z9j = some (r, Aba', Amo', Tma', Tlc', Ttc', rcp', pay') → va_P D vwCl (wX5 cy a0 a1 a2 a3 a4 a5 a6 a7 a8 a9 a10 a11 Asz Anu Abaj Amoj Aco Hsz Hla Hce Bsz Bla Bce Tmaj Tlcj Ttcj day lim low hig thr off cre rcpj payj) H → va_D A (wX5 cy a0 a1 a2 a3 a4 a5 a6 a7 a8 a9 a10 a11 Asz Anu Abaj Amoj Aco Hsz Hla Hce Bsz Bla Bce Tmaj Tlcj Ttcj day lim low hig thr off cre rcpj payj) → va_S A s.heap H locs → lv_has ls 10 [(0, .ref a0), (1, .int z1j), (2, .int z2j), (3, .int z3j), (4, .int z4j), (7, .int z7j), (8, .int z8j), (9, .int z9j)] → W p l e rmX5_reverseEntry s m ([.ref a0, .int p1] : List Value).toArray below meth c H locs 0 0 (MQ below (xQi D cy (wX5 cy a0 a1 a2 a3 a4 a5 a6 a7 a8 a9 a10 a11 Asz Anu Aba' Amo' Aco Hsz Hla Hce Bsz Bla Bce Tma' Tlc' Ttc' day lim low hig thr off cre rcp' pay') r A) ([.ref a0, .int p1] : List Value).toArray s 0 0 A) (F0 m 161 ls []) := by
    intro Abaj Amoj Tmaj Tlcj Ttcj rcpj payj z1j z2j z3j z4j z7j z8j z9j H locs ls hf hP hD hS hl
    unfold fX5_reverseEntry_J161 at hf
    refine lv_iload hx hb dX5_reverseEntry_161 (lv_at hl 6 rfl) ?_
    refine lv_if_lt (tgt := 186) hx hb dX5_reverseEntry_163 (by decide) (fun c_52 => ?_) (fun c_52 => ?_)
    · have hf := x_t c_52 hf
      exact hfX5_reverseEntry_J186 Abaj Amoj Tmaj Tlcj Ttcj rcpj payj z1j z2j z3j z4j z7j z8j z9j _ _ _ hf hP hD hS (lv_sub hl [0, 1, 2, 3, 4, 5, 6, 7] rfl)
    · have hf := x_f c_52 hf
      refine lv_aload_n hx hb dX5_reverseEntry_166 rfl (lv_at hl 0 rfl) ?_
      refine x_get hx hb (C := RX5) (T := TX5) (N := 13) (ci := 5) hts iX5 hown hK hP 0 rfl rfl 0 (by decide) wd1 rfl (.ref a1) rfl dX5_reverseEntry_167 ?_
      refine lv_iload hx hb dX5_reverseEntry_170 (lv_at hl 6 rfl) ?_
      obtain ⟨r_68, h_69, hf⟩ := bd1_el hf
      refine x_callVi (As := [.int z8j]) (rest := []) ⟨hx, hb, hml, hown, hts⟩ (mX0_balanceAt l D cy a1 a2 a3 a4 a5 Asz Anu Abaj Amoj Aco z8j r_68 h_69) (cwV 1 hts (gcV_X0_balanceAt hbg wm_8_13) rfl rfl rfl kdX0_balanceAt ⟨Nat.le_of_ble_eq_true rfl, Nat.le_of_ble_eq_true rfl⟩) (w1 := [(a0, .inr (5, [.ref a1, .ref a6, .ref a8, .ref a10, .int day, .int lim, .int low, .int hig, .int thr, .long off, .long cre, .long rcpj, .long payj]))]) (w2 := wX4 cy a6 a7 Hsz Hla Hce ++ (wX4 cy a8 a9 Bsz Bla Bce ++ (wX6 cy a10 a11 Tmaj Tlcj Ttcj))) (w' := wX5 cy a0 a1 a2 a3 a4 a5 a6 a7 a8 a9 a10 a11 Asz Anu Abaj Amoj Aco Hsz Hla Hce Bsz Bla Bce Tmaj Tlcj Ttcj day lim low hig thr off cre rcpj payj) rfl rfl hP hK hD hN hS hA (q0 := 0) rfl rfl rfl rfl hl rfl (Nat.le_of_ble_eq_true rfl) dX5_reverseEntry_172 ⟨Nat.zero_le _, Nat.zero_le _⟩ (fun H locs hP hD hS => ?_)
      refine lv_ldc hx hb hown wd5 dX5_reverseEntry_175 ?_
      refine lv_iload hx hb dX5_reverseEntry_177 (lv_at hl 7 rfl) ?_
      refine lv_isub hx hb dX5_reverseEntry_179 ?_
      refine lv_icmp_le (tgt := 186) hx hb dX5_reverseEntry_180 (by decide) (fun c_70 => ?_) (fun c_70 => ?_)
      · have hf := x_t c_70 hf
        exact hfX5_reverseEntry_J186 Abaj Amoj Tmaj Tlcj Ttcj rcpj payj z1j z2j z3j z4j z7j z8j z9j _ _ _ hf hP hD hS (lv_sub hl [0, 1, 2, 3, 4, 5, 6, 7] rfl)
      · have hf := x_f c_70 hf
        refine lv_bipush (v := (-4)) hx hb dX5_reverseEntry_183 (by decide) ?_
        have hf := Option.some.inj hf
        cases hf
        exact x_iret hx hb hr hlocks hK hP hD hS dX5_reverseEntry_185
  have hfX5_reverseEntry_J129 : ∀ (Abaj : Nat → Int32) (Amoj : Nat → Int32) (Tmaj : Int32) (Tlcj : Int32) (Ttcj : Nat → Int32) (rcpj : Int64) (payj : Int64) (z1j : Int32) (z2j : Int32) (z3j : Int32) (z4j : Int32) (z7j : Int32) (s0j : Int32) (H : Heap) (locs : List Loc) (ls : Array Slot), fX5_reverseEntry_J129 Asz Anu Abaj Amoj Hsz Hce Tmaj Tlcj Ttcj day rcpj payj z1j z2j z3j z4j z7j s0j = some (r, Aba', Amo', Tma', Tlc', Ttc', rcp', pay') → va_P D vwCl (wX5 cy a0 a1 a2 a3 a4 a5 a6 a7 a8 a9 a10 a11 Asz Anu Abaj Amoj Aco Hsz Hla Hce Bsz Bla Bce Tmaj Tlcj Ttcj day lim low hig thr off cre rcpj payj) H → va_D A (wX5 cy a0 a1 a2 a3 a4 a5 a6 a7 a8 a9 a10 a11 Asz Anu Abaj Amoj Aco Hsz Hla Hce Bsz Bla Bce Tmaj Tlcj Ttcj day lim low hig thr off cre rcpj payj) → va_S A s.heap H locs → lv_has ls 10 [(0, .ref a0), (1, .int z1j), (2, .int z2j), (3, .int z3j), (4, .int z4j), (7, .int z7j)] → W p l e rmX5_reverseEntry s m ([.ref a0, .int p1] : List Value).toArray below meth c H locs 0 0 (MQ below (xQi D cy (wX5 cy a0 a1 a2 a3 a4 a5 a6 a7 a8 a9 a10 a11 Asz Anu Aba' Amo' Aco Hsz Hla Hce Bsz Bla Bce Tma' Tlc' Ttc' day lim low hig thr off cre rcp' pay') r A) ([.ref a0, .int p1] : List Value).toArray s 0 0 A) (F0 m 129 ls [.int s0j]) := by
    intro Abaj Amoj Tmaj Tlcj Ttcj rcpj payj z1j z2j z3j z4j z7j s0j H locs ls hf hP hD hS hl
    unfold fX5_reverseEntry_J129 at hf
    refine lv_istore (lv' := [(8, .int s0j), (0, .ref a0), (1, .int z1j), (2, .int z2j), (3, .int z3j), (4, .int z4j), (7, .int z7j)]) hx hb dX5_reverseEntry_129 hl (by decide) rfl (fun ls hl => ?_)
    refine lv_aload_n hx hb dX5_reverseEntry_131 rfl (lv_at hl 1 rfl) ?_
    refine x_get hx hb (C := RX5) (T := TX5) (N := 13) (ci := 5) hts iX5 hown hK hP 0 rfl rfl 3 (by decide) wd0 rfl (.ref a10) rfl dX5_reverseEntry_132 ?_
    refine lv_iload_n hx hb dX5_reverseEntry_135 rfl (lv_at hl 2 rfl) ?_
    refine lv_iconst (v := 4) hx hb dX5_reverseEntry_136 (by decide) ?_
    obtain ⟨r_49, h_50, hf⟩ := bd1_el hf
    refine x_callVi (As := [.int z1j, .int 4]) (rest := []) ⟨hx, hb, hml, hown, hts⟩ (mX6_get l D cy a10 a11 Tmaj Tlcj Ttcj z1j 4 r_49 h_50) (cwV 2 hts (gcV_X6_get hbg wm_18_6) rfl rfl rfl kdX6_get ⟨Nat.le_of_ble_eq_true rfl, Nat.le_of_ble_eq_true rfl⟩) (w1 := [(a0, .inr (5, [.ref a1, .ref a6, .ref a8, .ref a10, .int day, .int lim, .int low, .int hig, .int thr, .long off, .long cre, .long rcpj, .long payj]))] ++ (wX0 cy a1 a2 a3 a4 a5 Asz Anu Abaj Amoj Aco ++ (wX4 cy a6 a7 Hsz Hla Hce ++ (wX4 cy a8 a9 Bsz Bla Bce)))) (w2 := []) (w' := wX5 cy a0 a1 a2 a3 a4 a5 a6 a7 a8 a9 a10 a11 Asz Anu Abaj Amoj Aco Hsz Hla Hce Bsz Bla Bce Tmaj Tlcj Ttcj day lim low hig thr off cre rcpj payj) (x_end rfl) (x_end rfl) hP hK hD hN hS hA (q0 := 0) rfl rfl rfl rfl hl rfl (Nat.le_of_ble_eq_true rfl) dX5_reverseEntry_137 ⟨Nat.zero_le _, Nat.zero_le _⟩ (fun H locs hP hD hS => ?_)
    refine lv_istore (lv' := [(9, .int r_49), (8, .int s0j), (0, .ref a0), (1, .int z1j), (2, .int z2j), (3, .int z3j), (4, .int z4j), (7, .int z7j)]) hx hb dX5_reverseEntry_140 hl (by decide) rfl (fun ls hl => ?_)
    refine lv_iload hx hb dX5_reverseEntry_142 (lv_at hl 7 rfl) ?_
    refine lv_if_lt (tgt := 161) hx hb dX5_reverseEntry_144 (by decide) (fun c_51 => ?_) (fun c_51 => ?_)
    · have hf := x_t c_51 hf
      exact hfX5_reverseEntry_J161 Abaj Amoj Tmaj Tlcj Ttcj rcpj payj z1j z2j z3j z4j z7j s0j r_49 _ _ _ hf hP hD hS (lv_sub hl [2, 3, 4, 5, 6, 7, 1, 0] rfl)
    · have hf := x_f c_51 hf
      refine lv_aload_n hx hb dX5_reverseEntry_147 rfl (lv_at hl 2 rfl) ?_
      refine lv_iload hx hb dX5_reverseEntry_148 (lv_at hl 7 rfl) ?_
      obtain ⟨r_71, h_72, hf⟩ := bd1_el hf
      refine x_callVi (As := [.int z7j]) (rest := []) ⟨hx, hb, hml, hown, hts⟩ (mX5_freeAt l D cy a0 a1 a2 a3 a4 a5 a6 a7 a8 a9 a10 a11 Asz Anu Abaj Amoj Aco Hsz Hla Hce Bsz Bla Bce Tmaj Tlcj Ttcj day lim low hig thr off cre rcpj payj z7j r_71 h_72) (cwV 1 hts (gcV_X5_freeAt hbg wm_10_21) rfl rfl rfl kdX5_freeAt ⟨Nat.le_of_ble_eq_true rfl, Nat.le_of_ble_eq_true rfl⟩) (w1 := []) (w2 := []) (w' := wX5 cy a0 a1 a2 a3 a4 a5 a6 a7 a8 a9 a10 a11 Asz Anu Abaj Amoj Aco Hsz Hla Hce Bsz Bla Bce Tmaj Tlcj Ttcj day lim low hig thr off cre rcpj payj) (List.append_nil _) (List.append_nil _) hP hK hD hN hS hA (q0 := 0) rfl rfl rfl rfl hl rfl (Nat.le_of_ble_eq_true rfl) dX5_reverseEntry_150 ⟨Nat.zero_le _, Nat.zero_le _⟩ (fun H locs hP hD hS => ?_)
      refine lv_iload hx hb dX5_reverseEntry_153 (lv_at hl 0 rfl) ?_
      refine lv_icmp_ge (tgt := 161) hx hb dX5_reverseEntry_155 (by decide) (fun c_73 => ?_) (fun c_73 => ?_)
      · have hf := x_t c_73 hf
        exact hfX5_reverseEntry_J161 Abaj Amoj Tmaj Tlcj Ttcj rcpj payj z1j z2j z3j z4j z7j s0j r_49 _ _ _ hf hP hD hS (lv_sub hl [2, 3, 4, 5, 6, 7, 1, 0] rfl)
      · have hf := x_f c_73 hf
        refine lv_bipush (v := (-3)) hx hb dX5_reverseEntry_158 (by decide) ?_
        have hf := Option.some.inj hf
        cases hf
        exact x_iret hx hb hr hlocks hK hP hD hS dX5_reverseEntry_160
  have hfX5_reverseEntry_J116 : ∀ (Abaj : Nat → Int32) (Amoj : Nat → Int32) (Tmaj : Int32) (Tlcj : Int32) (Ttcj : Nat → Int32) (rcpj : Int64) (payj : Int64) (z1j : Int32) (z2j : Int32) (z3j : Int32) (z4j : Int32) (z5j : Int32) (s0j : Int32) (H : Heap) (locs : List Loc) (ls : Array Slot), fX5_reverseEntry_J116 Asz Anu Abaj Amoj Hsz Hce Tmaj Tlcj Ttcj day rcpj payj z1j z2j z3j z4j z5j s0j = some (r, Aba', Amo', Tma', Tlc', Ttc', rcp', pay') → va_P D vwCl (wX5 cy a0 a1 a2 a3 a4 a5 a6 a7 a8 a9 a10 a11 Asz Anu Abaj Amoj Aco Hsz Hla Hce Bsz Bla Bce Tmaj Tlcj Ttcj day lim low hig thr off cre rcpj payj) H → va_D A (wX5 cy a0 a1 a2 a3 a4 a5 a6 a7 a8 a9 a10 a11 Asz Anu Abaj Amoj Aco Hsz Hla Hce Bsz Bla Bce Tmaj Tlcj Ttcj day lim low hig thr off cre rcpj payj) → va_S A s.heap H locs → lv_has ls 10 [(0, .ref a0), (1, .int z1j), (2, .int z2j), (3, .int z3j), (4, .int z4j), (5, .int z5j)] → W p l e rmX5_reverseEntry s m ([.ref a0, .int p1] : List Value).toArray below meth c H locs 0 0 (MQ below (xQi D cy (wX5 cy a0 a1 a2 a3 a4 a5 a6 a7 a8 a9 a10 a11 Asz Anu Aba' Amo' Aco Hsz Hla Hce Bsz Bla Bce Tma' Tlc' Ttc' day lim low hig thr off cre rcp' pay') r A) ([.ref a0, .int p1] : List Value).toArray s 0 0 A) (F0 m 116 ls [.int s0j]) := by
    intro Abaj Amoj Tmaj Tlcj Ttcj rcpj payj z1j z2j z3j z4j z5j s0j H locs ls hf hP hD hS hl
    unfold fX5_reverseEntry_J116 at hf
    refine lv_istore (lv' := [(7, .int s0j), (0, .ref a0), (1, .int z1j), (2, .int z2j), (3, .int z3j), (4, .int z4j), (5, .int z5j)]) hx hb dX5_reverseEntry_116 hl (by decide) rfl (fun ls hl => ?_)
    refine lv_iload_n hx hb dX5_reverseEntry_118 rfl (lv_at hl 3 rfl) ?_
    refine lv_iconst (v := 1) hx hb dX5_reverseEntry_119 (by decide) ?_
    refine lv_icmp_ne (tgt := 127) hx hb dX5_reverseEntry_120 (by decide) (fun c_48 => ?_) (fun c_48 => ?_)
    · have hf := x_f c_48 hf
      refine lv_iload hx hb dX5_reverseEntry_127 (lv_at hl 6 rfl) ?_
      exact hfX5_reverseEntry_J129 Abaj Amoj Tmaj Tlcj Ttcj rcpj payj z1j z2j z3j z4j s0j z5j _ _ _ hf hP hD hS (lv_sub hl [1, 2, 3, 4, 5, 0] rfl)
    · have hf := x_t c_48 hf
      refine lv_iconst (v := (-1)) hx hb dX5_reverseEntry_123 (by decide) ?_
      refine lv_goto (tgt := 129) hx hb dX5_reverseEntry_124 (by decide) ?_
      exact hfX5_reverseEntry_J129 Abaj Amoj Tmaj Tlcj Ttcj rcpj payj z1j z2j z3j z4j s0j (-1) _ _ _ hf hP hD hS (lv_sub hl [1, 2, 3, 4, 5, 0] rfl)
  have hfX5_reverseEntry_J104 : ∀ (Abaj : Nat → Int32) (Amoj : Nat → Int32) (Tmaj : Int32) (Tlcj : Int32) (Ttcj : Nat → Int32) (rcpj : Int64) (payj : Int64) (z1j : Int32) (z2j : Int32) (z3j : Int32) (z4j : Int32) (z5j : Int32) (z6j : Int32) (H : Heap) (locs : List Loc) (ls : Array Slot), fX5_reverseEntry_J104 Asz Anu Abaj Amoj Hsz Hce Tmaj Tlcj Ttcj day rcpj payj z1j z2j z3j z4j z5j z6j = some (r, Aba', Amo', Tma', Tlc', Ttc', rcp', pay') → va_P D vwCl (wX5 cy a0 a1 a2 a3 a4 a5 a6 a7 a8 a9 a10 a11 Asz Anu Abaj Amoj Aco Hsz Hla Hce Bsz Bla Bce Tmaj Tlcj Ttcj day lim low hig thr off cre rcpj payj) H → va_D A (wX5 cy a0 a1 a2 a3 a4 a5 a6 a7 a8 a9 a10 a11 Asz Anu Abaj Amoj Aco Hsz Hla Hce Bsz Bla Bce Tmaj Tlcj Ttcj day lim low hig thr off cre rcpj payj) → va_S A s.heap H locs → lv_has ls 10 [(0, .ref a0), (1, .int z1j), (2, .int z2j), (3, .int z3j), (4, .int z4j), (5, .int z5j), (6, .int z6j)] → W p l e rmX5_reverseEntry s m ([.ref a0, .int p1] : List Value).toArray below meth c H locs 0 0 (MQ below (xQi D cy (wX5 cy a0 a1 a2 a3 a4 a5 a6 a7 a8 a9 a10 a11 Asz Anu Aba' Amo' Aco Hsz Hla Hce Bsz Bla Bce Tma' Tlc' Ttc' day lim low hig thr off cre rcp' pay') r A) ([.ref a0, .int p1] : List Value).toArray s 0 0 A) (F0 m 104 ls []) := by
    intro Abaj Amoj Tmaj Tlcj Ttcj rcpj payj z1j z2j z3j z4j z5j z6j H locs ls hf hP hD hS hl
    unfold fX5_reverseEntry_J104 at hf
    refine lv_iload_n hx hb dX5_reverseEntry_104 rfl (lv_at hl 2 rfl) ?_
    refine lv_iconst (v := 1) hx hb dX5_reverseEntry_105 (by decide) ?_
    refine lv_icmp_ne (tgt := 114) hx hb dX5_reverseEntry_106 (by decide) (fun c_47 => ?_) (fun c_47 => ?_)
    · have hf := x_f c_47 hf
      refine lv_iload hx hb dX5_reverseEntry_114 (lv_at hl 6 rfl) ?_
      exact hfX5_reverseEntry_J116 Abaj Amoj Tmaj Tlcj Ttcj rcpj payj z1j z2j z3j z4j z5j z6j _ _ _ hf hP hD hS (lv_sub hl [0, 1, 2, 3, 4, 5] rfl)
    · have hf := x_t c_47 hf
      refine lv_iload hx hb dX5_reverseEntry_109 (lv_at hl 5 rfl) ?_
      refine lv_goto (tgt := 116) hx hb dX5_reverseEntry_111 (by decide) ?_
      exact hfX5_reverseEntry_J116 Abaj Amoj Tmaj Tlcj Ttcj rcpj payj z1j z2j z3j z4j z5j z5j _ _ _ hf hP hD hS (lv_sub hl [0, 1, 2, 3, 4, 5] rfl)
  unfold fX5_reverseEntry at hf
  refine lv_aload_n hx hb dX5_reverseEntry_0 rfl (lv_at hl 0 rfl) ?_
  refine x_get hx hb (C := RX5) (T := TX5) (N := 13) (ci := 5) hts iX5 hown hK hP 0 rfl rfl 3 (by decide) wd0 rfl (.ref a10) rfl dX5_reverseEntry_1 ?_
  refine lv_iload_n hx hb dX5_reverseEntry_4 rfl (lv_at hl 1 rfl) ?_
  obtain ⟨r_1, h_2, hf⟩ := bd1_el hf
  refine x_callVi (As := [.int p1]) (rest := []) ⟨hx, hb, hml, hown, hts⟩ (mX6_keeps l D cy a10 a11 Tma Tlc Ttc p1 r_1 h_2) (cwV 1 hts (gcV_X6_keeps hbg wm_18_2) rfl rfl rfl kdX6_keeps ⟨Nat.le_of_ble_eq_true rfl, Nat.le_of_ble_eq_true rfl⟩) (w1 := [(a0, .inr (5, [.ref a1, .ref a6, .ref a8, .ref a10, .int day, .int lim, .int low, .int hig, .int thr, .long off, .long cre, .long rcp, .long pay]))] ++ (wX0 cy a1 a2 a3 a4 a5 Asz Anu Aba Amo Aco ++ (wX4 cy a6 a7 Hsz Hla Hce ++ (wX4 cy a8 a9 Bsz Bla Bce)))) (w2 := []) (w' := wX5 cy a0 a1 a2 a3 a4 a5 a6 a7 a8 a9 a10 a11 Asz Anu Aba Amo Aco Hsz Hla Hce Bsz Bla Bce Tma Tlc Ttc day lim low hig thr off cre rcp pay) (x_end rfl) (x_end rfl) hP hK hD hN hS hA (q0 := 0) rfl rfl rfl rfl hl rfl (Nat.le_of_ble_eq_true rfl) dX5_reverseEntry_5 ⟨Nat.zero_le _, Nat.zero_le _⟩ (fun H locs hP hD hS => ?_)
  refine lv_if_ne (tgt := 13) hx hb dX5_reverseEntry_8 (by decide) (fun c_3 => ?_) (fun c_3 => ?_)
  · have hf := x_f c_3 hf
    refine lv_aload_n hx hb dX5_reverseEntry_13 rfl (lv_at hl 0 rfl) ?_
    refine x_get hx hb (C := RX5) (T := TX5) (N := 13) (ci := 5) hts iX5 hown hK hP 0 rfl rfl 3 (by decide) wd0 rfl (.ref a10) rfl dX5_reverseEntry_14 ?_
    refine lv_iload_n hx hb dX5_reverseEntry_17 rfl (lv_at hl 1 rfl) ?_
    refine lv_iconst (v := 1) hx hb dX5_reverseEntry_18 (by decide) ?_
    obtain ⟨r_4, h_5, hf⟩ := bd1_el hf
    refine x_callVi (As := [.int p1, .int 1]) (rest := []) ⟨hx, hb, hml, hown, hts⟩ (mX6_get l D cy a10 a11 Tma Tlc Ttc p1 1 r_4 h_5) (cwV 2 hts (gcV_X6_get hbg wm_18_6) rfl rfl rfl kdX6_get ⟨Nat.le_of_ble_eq_true rfl, Nat.le_of_ble_eq_true rfl⟩) (w1 := [(a0, .inr (5, [.ref a1, .ref a6, .ref a8, .ref a10, .int day, .int lim, .int low, .int hig, .int thr, .long off, .long cre, .long rcp, .long pay]))] ++ (wX0 cy a1 a2 a3 a4 a5 Asz Anu Aba Amo Aco ++ (wX4 cy a6 a7 Hsz Hla Hce ++ (wX4 cy a8 a9 Bsz Bla Bce)))) (w2 := []) (w' := wX5 cy a0 a1 a2 a3 a4 a5 a6 a7 a8 a9 a10 a11 Asz Anu Aba Amo Aco Hsz Hla Hce Bsz Bla Bce Tma Tlc Ttc day lim low hig thr off cre rcp pay) (x_end rfl) (x_end rfl) hP hK hD hN hS hA (q0 := 0) rfl rfl rfl rfl hl rfl (Nat.le_of_ble_eq_true rfl) dX5_reverseEntry_19 ⟨Nat.zero_le _, Nat.zero_le _⟩ (fun H locs hP hD hS => ?_)
    refine lv_istore_n (lv' := [(2, .int r_4), (0, .ref a0), (1, .int p1)]) hx hb dX5_reverseEntry_22 rfl hl (by decide) rfl (fun ls hl => ?_)
    refine lv_iload_n hx hb dX5_reverseEntry_23 rfl (lv_at hl 0 rfl) ?_
    refine lv_iconst (v := 3) hx hb dX5_reverseEntry_24 (by decide) ?_
    refine lv_icmp_gt (tgt := 41) hx hb dX5_reverseEntry_25 (by decide) (fun c_6 => ?_) (fun c_6 => ?_)
    · have hf := x_t c_6 hf
      exact hfX5_reverseEntry_J41 Aba Amo Tma Tlc Ttc rcp pay _ _ _ hf hP hD hS (lv_sub hl [] rfl)
    · have hf := x_f c_6 hf
      refine lv_aload_n hx hb dX5_reverseEntry_28 rfl (lv_at hl 1 rfl) ?_
      refine x_get hx hb (C := RX5) (T := TX5) (N := 13) (ci := 5) hts iX5 hown hK hP 0 rfl rfl 3 (by decide) wd0 rfl (.ref a10) rfl dX5_reverseEntry_29 ?_
      refine lv_iload_n hx hb dX5_reverseEntry_32 rfl (lv_at hl 2 rfl) ?_
      refine lv_bipush (v := 6) hx hb dX5_reverseEntry_33 (by decide) ?_
      obtain ⟨r_7, h_8, hf⟩ := bd1_el hf
      refine x_callVi (As := [.int p1, .int 6]) (rest := []) ⟨hx, hb, hml, hown, hts⟩ (mX6_get l D cy a10 a11 Tma Tlc Ttc p1 6 r_7 h_8) (cwV 2 hts (gcV_X6_get hbg wm_18_6) rfl rfl rfl kdX6_get ⟨Nat.le_of_ble_eq_true rfl, Nat.le_of_ble_eq_true rfl⟩) (w1 := [(a0, .inr (5, [.ref a1, .ref a6, .ref a8, .ref a10, .int day, .int lim, .int low, .int hig, .int thr, .long off, .long cre, .long rcp, .long pay]))] ++ (wX0 cy a1 a2 a3 a4 a5 Asz Anu Aba Amo Aco ++ (wX4 cy a6 a7 Hsz Hla Hce ++ (wX4 cy a8 a9 Bsz Bla Bce)))) (w2 := []) (w' := wX5 cy a0 a1 a2 a3 a4 a5 a6 a7 a8 a9 a10 a11 Asz Anu Aba Amo Aco Hsz Hla Hce Bsz Bla Bce Tma Tlc Ttc day lim low hig thr off cre rcp pay) (x_end rfl) (x_end rfl) hP hK hD hN hS hA (q0 := 0) rfl rfl rfl rfl hl rfl (Nat.le_of_ble_eq_true rfl) dX5_reverseEntry_35 ⟨Nat.zero_le _, Nat.zero_le _⟩ (fun H locs hP hD hS => ?_)
      refine lv_if_eq (tgt := 44) hx hb dX5_reverseEntry_38 (by decide) (fun c_9 => ?_) (fun c_9 => ?_)
      · have hf := x_t c_9 hf
        refine lv_aload_n hx hb dX5_reverseEntry_44 rfl (lv_at hl 1 rfl) ?_
        refine x_get hx hb (C := RX5) (T := TX5) (N := 13) (ci := 5) hts iX5 hown hK hP 0 rfl rfl 3 (by decide) wd0 rfl (.ref a10) rfl dX5_reverseEntry_45 ?_
        refine lv_iload_n hx hb dX5_reverseEntry_48 rfl (lv_at hl 2 rfl) ?_
        refine lv_iconst (v := 2) hx hb dX5_reverseEntry_49 (by decide) ?_
        obtain ⟨r_10, h_11, hf⟩ := bd1_el hf
        refine x_callVi (As := [.int p1, .int 2]) (rest := []) ⟨hx, hb, hml, hown, hts⟩ (mX6_get l D cy a10 a11 Tma Tlc Ttc p1 2 r_10 h_11) (cwV 2 hts (gcV_X6_get hbg wm_18_6) rfl rfl rfl kdX6_get ⟨Nat.le_of_ble_eq_true rfl, Nat.le_of_ble_eq_true rfl⟩) (w1 := [(a0, .inr (5, [.ref a1, .ref a6, .ref a8, .ref a10, .int day, .int lim, .int low, .int hig, .int thr, .long off, .long cre, .long rcp, .long pay]))] ++ (wX0 cy a1 a2 a3 a4 a5 Asz Anu Aba Amo Aco ++ (wX4 cy a6 a7 Hsz Hla Hce ++ (wX4 cy a8 a9 Bsz Bla Bce)))) (w2 := []) (w' := wX5 cy a0 a1 a2 a3 a4 a5 a6 a7 a8 a9 a10 a11 Asz Anu Aba Amo Aco Hsz Hla Hce Bsz Bla Bce Tma Tlc Ttc day lim low hig thr off cre rcp pay) (x_end rfl) (x_end rfl) hP hK hD hN hS hA (q0 := 0) rfl rfl rfl rfl hl rfl (Nat.le_of_ble_eq_true rfl) dX5_reverseEntry_50 ⟨Nat.zero_le _, Nat.zero_le _⟩ (fun H locs hP hD hS => ?_)
        refine lv_istore_n (lv' := [(3, .int r_10), (2, .int r_4), (0, .ref a0), (1, .int p1)]) hx hb dX5_reverseEntry_53 rfl hl (by decide) rfl (fun ls hl => ?_)
        refine lv_aload_n hx hb dX5_reverseEntry_54 rfl (lv_at hl 2 rfl) ?_
        refine x_get hx hb (C := RX5) (T := TX5) (N := 13) (ci := 5) hts iX5 hown hK hP 0 rfl rfl 3 (by decide) wd0 rfl (.ref a10) rfl dX5_reverseEntry_55 ?_
        refine lv_iload_n hx hb dX5_reverseEntry_58 rfl (lv_at hl 3 rfl) ?_
        refine lv_iconst (v := 3) hx hb dX5_reverseEntry_59 (by decide) ?_
        obtain ⟨r_12, h_13, hf⟩ := bd1_el hf
        refine x_callVi (As := [.int p1, .int 3]) (rest := []) ⟨hx, hb, hml, hown, hts⟩ (mX6_get l D cy a10 a11 Tma Tlc Ttc p1 3 r_12 h_13) (cwV 2 hts (gcV_X6_get hbg wm_18_6) rfl rfl rfl kdX6_get ⟨Nat.le_of_ble_eq_true rfl, Nat.le_of_ble_eq_true rfl⟩) (w1 := [(a0, .inr (5, [.ref a1, .ref a6, .ref a8, .ref a10, .int day, .int lim, .int low, .int hig, .int thr, .long off, .long cre, .long rcp, .long pay]))] ++ (wX0 cy a1 a2 a3 a4 a5 Asz Anu Aba Amo Aco ++ (wX4 cy a6 a7 Hsz Hla Hce ++ (wX4 cy a8 a9 Bsz Bla Bce)))) (w2 := []) (w' := wX5 cy a0 a1 a2 a3 a4 a5 a6 a7 a8 a9 a10 a11 Asz Anu Aba Amo Aco Hsz Hla Hce Bsz Bla Bce Tma Tlc Ttc day lim low hig thr off cre rcp pay) (x_end rfl) (x_end rfl) hP hK hD hN hS hA (q0 := 0) rfl rfl rfl rfl hl rfl (Nat.le_of_ble_eq_true rfl) dX5_reverseEntry_60 ⟨Nat.zero_le _, Nat.zero_le _⟩ (fun H locs hP hD hS => ?_)
        refine lv_istore (lv' := [(4, .int r_12), (3, .int r_10), (2, .int r_4), (0, .ref a0), (1, .int p1)]) hx hb dX5_reverseEntry_63 hl (by decide) rfl (fun ls hl => ?_)
        refine lv_aload_n hx hb dX5_reverseEntry_65 rfl (lv_at hl 3 rfl) ?_
        refine x_get hx hb (C := RX5) (T := TX5) (N := 13) (ci := 5) hts iX5 hown hK hP 0 rfl rfl 0 (by decide) wd1 rfl (.ref a1) rfl dX5_reverseEntry_66 ?_
        refine lv_iload_n hx hb dX5_reverseEntry_69 rfl (lv_at hl 1 rfl) ?_
        obtain ⟨r_14, h_15, hf⟩ := bd1_el hf
        refine x_callVi (As := [.int r_10]) (rest := []) ⟨hx, hb, hml, hown, hts⟩ (mX0_find l D cy a1 a2 a3 a4 a5 Asz Anu Aba Amo Aco r_10 r_14 h_15) (cwV 1 hts (gcV_X0_find hbg wm_6_14) rfl rfl rfl kdX0_find ⟨Nat.le_of_ble_eq_true rfl, Nat.le_of_ble_eq_true rfl⟩) (w1 := [(a0, .inr (5, [.ref a1, .ref a6, .ref a8, .ref a10, .int day, .int lim, .int low, .int hig, .int thr, .long off, .long cre, .long rcp, .long pay]))]) (w2 := wX4 cy a6 a7 Hsz Hla Hce ++ (wX4 cy a8 a9 Bsz Bla Bce ++ (wX6 cy a10 a11 Tma Tlc Ttc))) (w' := wX5 cy a0 a1 a2 a3 a4 a5 a6 a7 a8 a9 a10 a11 Asz Anu Aba Amo Aco Hsz Hla Hce Bsz Bla Bce Tma Tlc Ttc day lim low hig thr off cre rcp pay) rfl rfl hP hK hD hN hS hA (q0 := 0) rfl rfl rfl rfl hl rfl (Nat.le_of_ble_eq_true rfl) dX5_reverseEntry_70 ⟨Nat.zero_le _, Nat.zero_le _⟩ (fun H locs hP hD hS => ?_)
        refine lv_istore (lv' := [(5, .int r_14), (4, .int r_12), (3, .int r_10), (2, .int r_4), (0, .ref a0), (1, .int p1)]) hx hb dX5_reverseEntry_73 hl (by decide) rfl (fun ls hl => ?_)
        refine lv_aload_n hx hb dX5_reverseEntry_75 rfl (lv_at hl 4 rfl) ?_
        refine x_get hx hb (C := RX5) (T := TX5) (N := 13) (ci := 5) hts iX5 hown hK hP 0 rfl rfl 0 (by decide) wd1 rfl (.ref a1) rfl dX5_reverseEntry_76 ?_
        refine lv_iload hx hb dX5_reverseEntry_79 (lv_at hl 1 rfl) ?_
        obtain ⟨r_16, h_17, hf⟩ := bd1_el hf
        refine x_callVi (As := [.int r_12]) (rest := []) ⟨hx, hb, hml, hown, hts⟩ (mX0_find l D cy a1 a2 a3 a4 a5 Asz Anu Aba Amo Aco r_12 r_16 h_17) (cwV 1 hts (gcV_X0_find hbg wm_6_14) rfl rfl rfl kdX0_find ⟨Nat.le_of_ble_eq_true rfl, Nat.le_of_ble_eq_true rfl⟩) (w1 := [(a0, .inr (5, [.ref a1, .ref a6, .ref a8, .ref a10, .int day, .int lim, .int low, .int hig, .int thr, .long off, .long cre, .long rcp, .long pay]))]) (w2 := wX4 cy a6 a7 Hsz Hla Hce ++ (wX4 cy a8 a9 Bsz Bla Bce ++ (wX6 cy a10 a11 Tma Tlc Ttc))) (w' := wX5 cy a0 a1 a2 a3 a4 a5 a6 a7 a8 a9 a10 a11 Asz Anu Aba Amo Aco Hsz Hla Hce Bsz Bla Bce Tma Tlc Ttc day lim low hig thr off cre rcp pay) rfl rfl hP hK hD hN hS hA (q0 := 0) rfl rfl rfl rfl hl rfl (Nat.le_of_ble_eq_true rfl) dX5_reverseEntry_81 ⟨Nat.zero_le _, Nat.zero_le _⟩ (fun H locs hP hD hS => ?_)
        refine lv_istore (lv' := [(6, .int r_16), (5, .int r_14), (4, .int r_12), (3, .int r_10), (2, .int r_4), (0, .ref a0), (1, .int p1)]) hx hb dX5_reverseEntry_84 hl (by decide) rfl (fun ls hl => ?_)
        refine lv_iload hx hb dX5_reverseEntry_86 (lv_at hl 1 rfl) ?_
        refine lv_if_lt (tgt := 101) hx hb dX5_reverseEntry_88 (by decide) (fun c_18 => ?_) (fun c_18 => ?_)
        · have hf := x_t c_18 hf
          exact hfX5_reverseEntry_J101 Aba Amo Tma Tlc Ttc rcp pay _ _ _ hf hP hD hS (lv_sub hl [] rfl)
        · have hf := x_f c_18 hf
          refine lv_iload_n hx hb dX5_reverseEntry_91 rfl (lv_at hl 4 rfl) ?_
          refine lv_iconst (v := 3) hx hb dX5_reverseEntry_92 (by decide) ?_
          refine lv_icmp_ne (tgt := 104) hx hb dX5_reverseEntry_93 (by decide) (fun c_19 => ?_) (fun c_19 => ?_)
          · have hf := x_f c_19 hf
            exact hfX5_reverseEntry_J104 Aba Amo Tma Tlc Ttc rcp pay p1 r_4 r_10 r_12 r_14 r_16 _ _ _ hf hP hD hS (lv_sub hl [5, 6, 4, 3, 2, 1, 0] rfl)
          · have hf := x_t c_19 hf
            refine lv_iload hx hb dX5_reverseEntry_96 (lv_at hl 0 rfl) ?_
            refine lv_if_ge (tgt := 104) hx hb dX5_reverseEntry_98 (by decide) (fun c_74 => ?_) (fun c_74 => ?_)
            · have hf := x_t c_74 hf
              exact hfX5_reverseEntry_J104 Aba Amo Tma Tlc Ttc rcp pay p1 r_4 r_10 r_12 r_14 r_16 _ _ _ hf hP hD hS (lv_sub hl [5, 6, 4, 3, 2, 1, 0] rfl)
            · have hf := x_f c_74 hf
              exact hfX5_reverseEntry_J101 Aba Amo Tma Tlc Ttc rcp pay _ _ _ hf hP hD hS (lv_sub hl [] rfl)
      · have hf := x_f c_9 hf
        exact hfX5_reverseEntry_J41 Aba Amo Tma Tlc Ttc rcp pay _ _ _ hf hP hD hS (lv_sub hl [] rfl)
  · have hf := x_t c_3 hf
    refine lv_iconst (v := (-1)) hx hb dX5_reverseEntry_11 (by decide) ?_
    have hf := Option.some.inj hf
    cases hf
    exact x_iret hx hb hr hlocks hK hP hD hS dX5_reverseEntry_12
