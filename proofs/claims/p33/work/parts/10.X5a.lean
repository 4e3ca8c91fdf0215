theorem kdX5_copyFrom : yX5_copyFrom.cls = RX5 ∧ yX5_copyFrom.cls ≠ "java/lang/invoke/MethodHandle" ∧ yX5_copyFrom.cls ≠ "java/lang/invoke/VarHandle" ∧ (parseMethodDescriptor yX5_copyFrom.desc).map (fun d => d.parameters.length) = some 1 := by decide +kernel
def rmX5_copyFrom : Room := { frames := 2, cells := 0, slots := 0, locals := 69 }
set_option maxHeartbeats 4000000 in
set_option maxRecDepth 100000 in
theorem mX5_copyFrom (l : Launch) (D : va_G) (cy : Nat → ClassId) (a0 a1 a2 a3 a4 a5 a6 a7 a8 a9 a10 a11 b0 b1 b2 b3 b4 b5 b6 b7 b8 b9 b10 b11 : Nat) (Asz : Int32) (Anu : Nat → Int32) (Aba : Nat → Int32) (Amo : Nat → Int32) (Aco : Nat → Int64) (Hsz : Int32) (Hla : Int32) (Hce : Nat → Int32) (Bsz : Int32) (Bla : Int32) (Bce : Nat → Int32) (Tma : Int32) (Tlc : Int32) (Ttc : Nat → Int32) (day : Int32) (lim : Int32) (low : Int32) (hig : Int32) (thr : Int32) (off : Int64) (cre : Int64) (rcp : Int64) (pay : Int64) (oAsz : Int32) (oAnu : Nat → Int32) (oAba : Nat → Int32) (oAmo : Nat → Int32) (oAco : Nat → Int64) (oHsz : Int32) (oHla : Int32) (oHce : Nat → Int32) (oBsz : Int32) (oBla : Int32) (oBce : Nat → Int32) (oTma : Int32) (oTlc : Int32) (oTtc : Nat → Int32) (oday : Int32) (olim : Int32) (olow : Int32) (ohig : Int32) (othr : Int32) (ooff : Int64) (ocre : Int64) (orcp : Int64) (opay : Int64)  (Asz' : Int32) (Anu' : Nat → Int32) (Aba' : Nat → Int32) (Amo' : Nat → Int32) (Aco' : Nat → Int64) (Hsz' : Int32) (Hla' : Int32) (Hce' : Nat → Int32) (Bsz' : Int32) (Bla' : Int32) (Bce' : Nat → Int32) (Tma' : Int32) (Tlc' : Int32) (Ttc' : Nat → Int32) (day' : Int32) (lim' : Int32) (low' : Int32) (hig' : Int32) (thr' : Int32) (off' : Int64) (cre' : Int64) (rcp' : Int64) (pay' : Int64) (hf : fX5_copyFrom Asz Anu Aba Amo Aco Hsz Hla Hce Bsz Bla Bce Tma Tlc Ttc day lim low hig thr off cre rcp pay oAsz oAnu oAba oAmo oAco oHsz oHla oHce oBsz oBla oBce oTma oTlc oTtc oday olim olow ohig othr ooff ocre orcp opay = some (Asz', Anu', Aba', Amo', Aco', Hsz', Hla', Hce', Bsz', Bla', Bce', Tma', Tlc', Ttc', day', lim', low', hig', thr', off', cre', rcp', pay')) : xMv l D cy yX5_copyFrom aX5_copyFrom rmX5_copyFrom ([.ref a0, .ref b0] : List Value) (wX5 cy a0 a1 a2 a3 a4 a5 a6 a7 a8 a9 a10 a11 Asz Anu Aba Amo Aco Hsz Hla Hce Bsz Bla Bce Tma Tlc Ttc day lim low hig thr off cre rcp pay ++ wX5 cy b0 b1 b2 b3 b4 b5 b6 b7 b8 b9 b10 b11 oAsz oAnu oAba oAmo oAco oHsz oHla oHce oBsz oBla oBce oTma oTlc oTtc oday olim olow ohig othr ooff ocre orcp opay) (wX5 cy a0 a1 a2 a3 a4 a5 a6 a7 a8 a9 a10 a11 Asz' Anu' Aba' Amo' Aco' Hsz' Hla' Hce' Bsz' Bla' Bce' Tma' Tlc' Ttc' day' lim' low' hig' thr' off' cre' rcp' pay' ++ wX5 cy b0 b1 b2 b3 b4 b5 b6 b7 b8 b9 b10 b11 oAsz oAnu oAba oAmo oAco oHsz oHla oHce oBsz oBla oBce oTma oTlc oTtc oday olim olow ohig othr ooff ocre orcp opay) := by
  intro hz
  refine x_start (Qc := xQv D cy _) (cc := cX5_copyFrom) (maxL := 2) (ret := none) (by decide) rfl (Nat.le_of_ble_eq_true rfl) (lv := [(0, .ref a0), (1, .ref b0)]) rfl ?_
  intro p e s m below meth c ls A hx hb hr hml hown hts hlocks hK hP hD hS hA hN hl
  have hown : s.vm.findClass RX5 = some m.cls := hown
  have hbg : ∀ w ∈ wsL_law, w ∈ aX5_copyFrom := fun w h => List.mem_cons_of_mem _ h
  have wd0 : (Cond.fieldLink RX5 12 "ClientMoneyBook$State" "accounts" "LClientMoneyBook$Accounts;").before ([.ref a0, .ref b0] : List Value).toArray s = true := hts _ (List.mem_cons_of_mem _ wm_1_20)
  have wd1 : (Cond.fieldLink RX5 21 "ClientMoneyBook$State" "holds" "LClientMoneyBook$Rows;").before ([.ref a0, .ref b0] : List Value).toArray s = true := hts _ (List.mem_cons_of_mem _ wm_2_0)
  have wd2 : (Cond.fieldLink RX5 25 "ClientMoneyBook$State" "bills" "LClientMoneyBook$Rows;").before ([.ref a0, .ref b0] : List Value).toArray s = true := hts _ (List.mem_cons_of_mem _ wm_2_1)
  have wd3 : (Cond.fieldLink RX5 31 "ClientMoneyBook$State" "trail" "LClientMoneyBook$Trail;").before ([.ref a0, .ref b0] : List Value).toArray s = true := hts _ (List.mem_cons_of_mem _ wm_2_5)
  have wd4 : (Cond.fieldLink RX5 35 "ClientMoneyBook$State" "day" "I").before ([.ref a0, .ref b0] : List Value).toArray s = true := hts _ (List.mem_cons_of_mem _ wm_2_6)
  have wd5 : (Cond.fieldLink RX5 40 "ClientMoneyBook$State" "limit" "I").before ([.ref a0, .ref b0] : List Value).toArray s = true := hts _ (List.mem_cons_of_mem _ wm_2_8)
  have wd6 : (Cond.fieldLink RX5 43 "ClientMoneyBook$State" "low" "I").before ([.ref a0, .ref b0] : List Value).toArray s = true := hts _ (List.mem_cons_of_mem _ wm_2_9)
  have wd7 : (Cond.fieldLink RX5 46 "ClientMoneyBook$State" "high" "I").before ([.ref a0, .ref b0] : List Value).toArray s = true := hts _ (List.mem_cons_of_mem _ wm_2_10)
  have wd8 : (Cond.fieldLink RX5 49 "ClientMoneyBook$State" "threshold" "I").before ([.ref a0, .ref b0] : List Value).toArray s = true := hts _ (List.mem_cons_of_mem _ wm_2_11)
  have wd9 : (Cond.fieldLink RX5 52 "ClientMoneyBook$State" "office" "J").before ([.ref a0, .ref b0] : List Value).toArray s = true := hts _ (List.mem_cons_of_mem _ wm_2_12)
  have wd10 : (Cond.fieldLink RX5 56 "ClientMoneyBook$State" "credited" "J").before ([.ref a0, .ref b0] : List Value).toArray s = true := hts _ (List.mem_cons_of_mem _ wm_2_13)
  have wd11 : (Cond.fieldLink RX5 59 "ClientMoneyBook$State" "receipts" "J").before ([.ref a0, .ref b0] : List Value).toArray s = true := hts _ (List.mem_cons_of_mem _ wm_2_14)
  have wd12 : (Cond.fieldLink RX5 62 "ClientMoneyBook$State" "payments" "J").before ([.ref a0, .ref b0] : List Value).toArray s = true := hts _ (List.mem_cons_of_mem _ wm_2_15)
  have iX5 : ∀ w ∈ u_ws RX5 TX5 13, w ∈ aX5_copyFrom := fun w h => List.mem_cons_of_mem _ (inlX5 w h)
  unfold fX5_copyFrom at hf
  refine lv_aload_n hx hb dX5_copyFrom_0 rfl (lv_at hl 0 rfl) ?_
  refine x_get hx hb (C := RX5) (T := TX5) (N := 13) (ci := 5) hts iX5 hown hK hP 0 rfl rfl 0 (by decide) wd0 rfl (.ref a1) rfl dX5_copyFrom_1 ?_
  refine lv_aload_n hx hb dX5_copyFrom_4 rfl (lv_at hl 1 rfl) ?_
  refine x_get hx hb (C := RX5) (T := TX5) (N := 13) (ci := 5) hts iX5 hown hK hP 12 rfl rfl 0 (by decide) wd0 rfl (.ref b1) rfl dX5_copyFrom_5 ?_
  obtain ⟨Asz_1, Anu_2, Aba_3, Amo_4, Aco_5, h_6, hf⟩ := bd5_el hf
  refine x_callXv (As := [.ref b1]) (rest := []) ⟨hx, hb, hml, hown, hts⟩ (mX0_copyFrom l D cy a1 a2 a3 a4 a5 b1 b2 b3 b4 b5 Asz Anu Aba Amo Aco oAsz oAnu oAba oAmo oAco  Asz_1 Anu_2 Aba_3 Amo_4 Aco_5 h_6) (cwV 1 hts (gcV_X0_copyFrom hbg wm_5_15) rfl rfl rfl kdX0_copyFrom ⟨Nat.le_of_ble_eq_true rfl, Nat.le_of_ble_eq_true rfl⟩) [1, 2, 3, 4, 5, 13, 14, 15, 16, 17] [0, 6, 7, 8, 9, 10, 11, 12, 18, 19, 20, 21, 22, 23] [0, 14, 15, 16, 17, 18, 1, 2, 3, 4, 5, 6, 7, 19, 20, 21, 22, 23, 8, 9, 10, 11, 12, 13] (wr := [(a0, .inr (5, [.ref a1, .ref a6, .ref a8, .ref a10, .int day, .int lim, .int low, .int hig, .int thr, .long off, .long cre, .long rcp, .long pay])), (a6, .inr (4, [.int Hsz, .int Hla, .ref a7])), (a7, .inl (cy 1, 60, .inl Hce)), (a8, .inr (4, [.int Bsz, .int Bla, .ref a9])), (a9, .inl (cy 1, 60, .inl Bce)), (a10, .inr (6, [.int Tma, .int Tlc, .ref a11])), (a11, .inl (cy 1, 168, .inl Ttc)), (b0, .inr (5, [.ref b1, .ref b6, .ref b8, .ref b10, .int oday, .int olim, .int olow, .int ohig, .int othr, .long ooff, .long ocre, .long orcp, .long opay])), (b6, .inr (4, [.int oHsz, .int oHla, .ref b7])), (b7, .inl (cy 1, 60, .inl oHce)), (b8, .inr (4, [.int oBsz, .int oBla, .ref b9])), (b9, .inl (cy 1, 60, .inl oBce)), (b10, .inr (6, [.int oTma, .int oTlc, .ref b11])), (b11, .inl (cy 1, 168, .inl oTtc))]) (w' := wX5 cy a0 a1 a2 a3 a4 a5 a6 a7 a8 a9 a10 a11 Asz_1 Anu_2 Aba_3 Amo_4 Aco_5 Hsz Hla Hce Bsz Bla Bce Tma Tlc Ttc day lim low hig thr off cre rcp pay ++ wX5 cy b0 b1 b2 b3 b4 b5 b6 b7 b8 b9 b10 b11 oAsz oAnu oAba oAmo oAco oHsz oHla oHce oBsz oBla oBce oTma oTlc oTtc oday olim olow ohig othr ooff ocre orcp opay) rfl rfl (by decide) (by decide) (by decide) rfl (by decide) hP hK hD hN hS hA (q0 := 0) rfl rfl rfl rfl hl rfl (Nat.le_of_ble_eq_true rfl) dX5_copyFrom_8 ⟨Nat.zero_le _, Nat.zero_le _⟩ (fun H locs hP hD hS => ?_)
  refine lv_aload_n hx hb dX5_copyFrom_11 rfl (lv_at hl 0 rfl) ?_
  refine x_get hx hb (C := RX5) (T := TX5) (N := 13) (ci := 5) hts iX5 hown hK hP 0 rfl rfl 1 (by decide) wd1 rfl (.ref a6) rfl dX5_copyFrom_12 ?_
  refine lv_aload_n hx hb dX5_copyFrom_15 rfl (lv_at hl 1 rfl) ?_
  refine x_get hx hb (C := RX5) (T := TX5) (N := 13) (ci := 5) hts iX5 hown hK hP 12 rfl rfl 1 (by decide) wd1 rfl (.ref b6) rfl dX5_copyFrom_16 ?_
  obtain ⟨Hsz_7, Hla_8, Hce_9, h_10, hf⟩ := bd3_el hf
  refine x_callXv (As := [.ref b6]) (rest := []) ⟨hx, hb, hml, hown, hts⟩ (mX4_copyFrom l D cy a6 a7 b6 b7 Hsz Hla Hce oHsz oHla oHce  Hsz_7 Hla_8 Hce_9 h_10) (cwV 1 hts (gcV_X4_copyFrom hbg wm_5_23) rfl rfl rfl kdX4_copyFrom ⟨Nat.le_of_ble_eq_true rfl, Nat.le_of_ble_eq_true rfl⟩) [6, 7, 18, 19] [0, 1, 2, 3, 4, 5, 8, 9, 10, 11, 12, 13, 14, 15, 16, 17, 20, 21, 22, 23] [0, 1, 2, 3, 4, 5, 20, 21, 6, 7, 8, 9, 10, 11, 12, 13, 14, 15, 22, 23, 16, 17, 18, 19] (wr := [(a0, .inr (5, [.ref a1, .ref a6, .ref a8, .ref a10, .int day, .int lim, .int low, .int hig, .int thr, .long off, .long cre, .long rcp, .long pay])), (a1, .inr (0, [.int Asz_1, .ref a2, .ref a3, .ref a4, .ref a5])), (a2, .inl (cy 1, 12, .inl Anu_2)), (a3, .inl (cy 1, 12, .inl Aba_3)), (a4, .inl (cy 1, 12, .inl Amo_4)), (a5, .inl (cy 2, 12, .inr (.inl Aco_5))), (a8, .inr (4, [.int Bsz, .int Bla, .ref a9])), (a9, .inl (cy 1, 60, .inl Bce)), (a10, .inr (6, [.int Tma, .int Tlc, .ref a11])), (a11, .inl (cy 1, 168, .inl Ttc)), (b0, .inr (5, [.ref b1, .ref b6, .ref b8, .ref b10, .int oday, .int olim, .int olow, .int ohig, .int othr, .long ooff, .long ocre, .long orcp, .long opay])), (b1, .inr (0, [.int oAsz, .ref b2, .ref b3, .ref b4, .ref b5])), (b2, .inl (cy 1, 12, .inl oAnu)), (b3, .inl (cy 1, 12, .inl oAba)), (b4, .inl (cy 1, 12, .inl oAmo)), (b5, .inl (cy 2, 12, .inr (.inl oAco))), (b8, .inr (4, [.int oBsz, .int oBla, .ref b9])), (b9, .inl (cy 1, 60, .inl oBce)), (b10, .inr (6, [.int oTma, .int oTlc, .ref b11])), (b11, .inl (cy 1, 168, .inl oTtc))]) (w' := wX5 cy a0 a1 a2 a3 a4 a5 a6 a7 a8 a9 a10 a11 Asz_1 Anu_2 Aba_3 Amo_4 Aco_5 Hsz_7 Hla_8 Hce_9 Bsz Bla Bce Tma Tlc Ttc day lim low hig thr off cre rcp pay ++ wX5 cy b0 b1 b2 b3 b4 b5 b6 b7 b8 b9 b10 b11 oAsz oAnu oAba oAmo oAco oHsz oHla oHce oBsz oBla oBce oTma oTlc oTtc oday olim olow ohig othr ooff ocre orcp opay) rfl rfl (by decide) (by decide) (by decide) rfl (by decide) hP hK hD hN hS hA (q0 := 0) rfl rfl rfl rfl hl rfl (Nat.le_of_ble_eq_true rfl) dX5_copyFrom_19 ⟨Nat.zero_le _, Nat.zero_le _⟩ (fun H locs hP hD hS => ?_)
  refine lv_aload_n hx hb dX5_copyFrom_22 rfl (lv_at hl 0 rfl) ?_
  refine x_get hx hb (C := RX5) (T := TX5) (N := 13) (ci := 5) hts iX5 hown hK hP 0 rfl rfl 2 (by decide) wd2 rfl (.ref a8) rfl dX5_copyFrom_23 ?_
  refine lv_aload_n hx hb dX5_copyFrom_26 rfl (lv_at hl 1 rfl) ?_
  refine x_get hx hb (C := RX5) (T := TX5) (N := 13) (ci := 5) hts iX5 hown hK hP 12 rfl rfl 2 (by decide) wd2 rfl (.ref b8) rfl dX5_copyFrom_27 ?_
  obtain ⟨Bsz_11, Bla_12, Bce_13, h_14, hf⟩ := bd3_el hf
  refine x_callXv (As := [.ref b8]) (rest := []) ⟨hx, hb, hml, hown, hts⟩ (mX4_copyFrom l D cy a8 a9 b8 b9 Bsz Bla Bce oBsz oBla oBce  Bsz_11 Bla_12 Bce_13 h_14) (cwV 1 hts (gcV_X4_copyFrom hbg wm_5_23) rfl rfl rfl kdX4_copyFrom ⟨Nat.le_of_ble_eq_true rfl, Nat.le_of_ble_eq_true rfl⟩) [8, 9, 20, 21] [0, 1, 2, 3, 4, 5, 6, 7, 10, 11, 12, 13, 14, 15, 16, 17, 18, 19, 22, 23] [0, 1, 2, 3, 4, 5, 6, 7, 20, 21, 8, 9, 10, 11, 12, 13, 14, 15, 16, 17, 22, 23, 18, 19] (wr := [(a0, .inr (5, [.ref a1, .ref a6, .ref a8, .ref a10, .int day, .int lim, .int low, .int hig, .int thr, .long off, .long cre, .long rcp, .long pay])), (a1, .inr (0, [.int Asz_1, .ref a2, .ref a3, .ref a4, .ref a5])), (a2, .inl (cy 1, 12, .inl Anu_2)), (a3, .inl (cy 1, 12, .inl Aba_3)), (a4, .inl (cy 1, 12, .inl Amo_4)), (a5, .inl (cy 2, 12, .inr (.inl Aco_5))), (a6, .inr (4, [.int Hsz_7, .int Hla_8, .ref a7])), (a7, .inl (cy 1, 60, .inl Hce_9)), (a10, .inr (6, [.int Tma, .int Tlc, .ref a11])), (a11, .inl (cy 1, 168, .inl Ttc)), (b0, .inr (5, [.ref b1, .ref b6, .ref b8, .ref b10, .int oday, .int olim, .int olow, .int ohig, .int othr, .long ooff, .long ocre, .long orcp, .long opay])), (b1, .inr (0, [.int oAsz, .ref b2, .ref b3, .ref b4, .ref b5])), (b2, .inl (cy 1, 12, .inl oAnu)), (b3, .inl (cy 1, 12, .inl oAba)), (b4, .inl (cy 1, 12, .inl oAmo)), (b5, .inl (cy 2, 12, .inr (.inl oAco))), (b6, .inr (4, [.int oHsz, .int oHla, .ref b7])), (b7, .inl (cy 1, 60, .inl oHce)), (b10, .inr (6, [.int oTma, .int oTlc, .ref b11])), (b11, .inl (cy 1, 168, .inl oTtc))]) (w' := wX5 cy a0 a1 a2 a3 a4 a5 a6 a7 a8 a9 a10 a11 Asz_1 Anu_2 Aba_3 Amo_4 Aco_5 Hsz_7 Hla_8 Hce_9 Bsz_11 Bla_12 Bce_13 Tma Tlc Ttc day lim low hig thr off cre rcp pay ++ wX5 cy b0 b1 b2 b3 b4 b5 b6 b7 b8 b9 b10 b11 oAsz oAnu oAba oAmo oAco oHsz oHla oHce oBsz oBla oBce oTma oTlc oTtc oday olim olow ohig othr ooff ocre orcp opay) rfl rfl (by decide) (by decide) (by decide) rfl (by decide) hP hK hD hN hS hA (q0 := 0) rfl rfl rfl rfl hl rfl (Nat.le_of_ble_eq_true rfl) dX5_copyFrom_30 ⟨Nat.zero_le _, Nat.zero_le _⟩ (fun H locs hP hD hS => ?_)
  refine lv_aload_n hx hb dX5_copyFrom_33 rfl (lv_at hl 0 rfl) ?_
  refine x_get hx hb (C := RX5) (T := TX5) (N := 13) (ci := 5) hts iX5 hown hK hP 0 rfl rfl 3 (by decide) wd3 rfl (.ref a10) rfl dX5_copyFrom_34 ?_
  refine lv_aload_n hx hb dX5_copyFrom_37 rfl (lv_at hl 1 rfl) ?_
  refine x_get hx hb (C := RX5) (T := TX5) (N := 13) (ci := 5) hts iX5 hown hK hP 12 rfl rfl 3 (by decide) wd3 rfl (.ref b10) rfl dX5_copyFrom_38 ?_
  obtain ⟨Tma_15, Tlc_16, Ttc_17, h_18, hf⟩ := bd3_el hf
  refine x_callXv (As := [.ref b10]) (rest := []) ⟨hx, hb, hml, hown, hts⟩ (mX6_copyFrom l D cy a10 a11 b10 b11 Tma Tlc Ttc oTma oTlc oTtc  Tma_15 Tlc_16 Ttc_17 h_18) (cwV 1 hts (gcV_X6_copyFrom hbg wm_6_4) rfl rfl rfl kdX6_copyFrom ⟨Nat.le_of_ble_eq_true rfl, Nat.le_of_ble_eq_true rfl⟩) [10, 11, 22, 23] [0, 1, 2, 3, 4, 5, 6, 7, 8, 9, 12, 13, 14, 15, 16, 17, 18, 19, 20, 21] [0, 1, 2, 3, 4, 5, 6, 7, 8, 9, 20, 21, 10, 11, 12, 13, 14, 15, 16, 17, 18, 19, 22, 23] (wr := [(a0, .inr (5, [.ref a1, .ref a6, .ref a8, .ref a10, .int day, .int lim, .int low, .int hig, .int thr, .long off, .long cre, .long rcp, .long pay])), (a1, .inr (0, [.int Asz_1, .ref a2, .ref a3, .ref a4, .ref a5])), (a2, .inl (cy 1, 12, .inl Anu_2)), (a3, .inl (cy 1, 12, .inl Aba_3)), (a4, .inl (cy 1, 12, .inl Amo_4)), (a5, .inl (cy 2, 12, .inr (.inl Aco_5))), (a6, .inr (4, [.int Hsz_7, .int Hla_8, .ref a7])), (a7, .inl (cy 1, 60, .inl Hce_9)), (a8, .inr (4, [.int Bsz_11, .int Bla_12, .ref a9])), (a9, .inl (cy 1, 60, .inl Bce_13)), (b0, .inr (5, [.ref b1, .ref b6, .ref b8, .ref b10, .int oday, .int olim, .int olow, .int ohig, .int othr, .long ooff, .long ocre, .long orcp, .long opay])), (b1, .inr (0, [.int oAsz, .ref b2, .ref b3, .ref b4, .ref b5])), (b2, .inl (cy 1, 12, .inl oAnu)), (b3, .inl (cy 1, 12, .inl oAba)), (b4, .inl (cy 1, 12, .inl oAmo)), (b5, .inl (cy 2, 12, .inr (.inl oAco))), (b6, .inr (4, [.int oHsz, .int oHla, .ref b7])), (b7, .inl (cy 1, 60, .inl oHce)), (b8, .inr (4, [.int oBsz, .int oBla, .ref b9])), (b9, .inl (cy 1, 60, .inl oBce))]) (w' := wX5 cy a0 a1 a2 a3 a4 a5 a6 a7 a8 a9 a10 a11 Asz_1 Anu_2 Aba_3 Amo_4 Aco_5 Hsz_7 Hla_8 Hce_9 Bsz_11 Bla_12 Bce_13 Tma_15 Tlc_16 Ttc_17 day lim low hig thr off cre rcp pay ++ wX5 cy b0 b1 b2 b3 b4 b5 b6 b7 b8 b9 b10 b11 oAsz oAnu oAba oAmo oAco oHsz oHla oHce oBsz oBla oBce oTma oTlc oTtc oday olim olow ohig othr ooff ocre orcp opay) rfl rfl (by decide) (by decide) (by decide) rfl (by decide) hP hK hD hN hS hA (q0 := 0) rfl rfl rfl rfl hl rfl (Nat.le_of_ble_eq_true rfl) dX5_copyFrom_41 ⟨Nat.zero_le _, Nat.zero_le _⟩ (fun H locs hP hD hS => ?_)
  refine lv_aload_n hx hb dX5_copyFrom_44 rfl (lv_at hl 0 rfl) ?_
  refine lv_aload_n hx hb dX5_copyFrom_45 rfl (lv_at hl 1 rfl) ?_
  refine x_get hx hb (C := RX5) (T := TX5) (N := 13) (ci := 5) hts iX5 hown hK hP 12 rfl rfl 4 (by decide) wd4 rfl (.int oday) rfl dX5_copyFrom_46 ?_
  refine x_put hx hb (C := RX5) (T := TX5) (N := 13) (ci := 5) hts iX5 tyX5 tyX5_ok nmX5 hown hK hP hD hS 0 rfl rfl 4 (by decide) wd4 rfl rfl (ty := .int) rfl rfl rfl (Nat.le_of_ble_eq_true rfl) (w' := wX5 cy a0 a1 a2 a3 a4 a5 a6 a7 a8 a9 a10 a11 Asz_1 Anu_2 Aba_3 Amo_4 Aco_5 Hsz_7 Hla_8 Hce_9 Bsz_11 Bla_12 Bce_13 Tma_15 Tlc_16 Ttc_17 oday lim low hig thr off cre rcp pay ++ wX5 cy b0 b1 b2 b3 b4 b5 b6 b7 b8 b9 b10 b11 oAsz oAnu oAba oAmo oAco oHsz oHla oHce oBsz oBla oBce oTma oTlc oTtc oday olim olow ohig othr ooff ocre orcp opay) rfl dX5_copyFrom_49 (fun H locs hP hD hS => ?_)
  refine lv_aload_n hx hb dX5_copyFrom_52 rfl (lv_at hl 0 rfl) ?_
  refine lv_aload_n hx hb dX5_copyFrom_53 rfl (lv_at hl 1 rfl) ?_
  refine x_get hx hb (C := RX5) (T := TX5) (N := 13) (ci := 5) hts iX5 hown hK hP 12 rfl rfl 5 (by decide) wd5 rfl (.int olim) rfl dX5_copyFrom_54 ?_
  refine x_put hx hb (C := RX5) (T := TX5) (N := 13) (ci := 5) hts iX5 tyX5 tyX5_ok nmX5 hown hK hP hD hS 0 rfl rfl 5 (by decide) wd5 rfl rfl (ty := .int) rfl rfl rfl (Nat.le_of_ble_eq_true rfl) (w' := wX5 cy a0 a1 a2 a3 a4 a5 a6 a7 a8 a9 a10 a11 Asz_1 Anu_2 Aba_3 Amo_4 Aco_5 Hsz_7 Hla_8 Hce_9 Bsz_11 Bla_12 Bce_13 Tma_15 Tlc_16 Ttc_17 oday olim low hig thr off cre rcp pay ++ wX5 cy b0 b1 b2 b3 b4 b5 b6 b7 b8 b9 b10 b11 oAsz oAnu oAba oAmo oAco oHsz oHla oHce oBsz oBla oBce oTma oTlc oTtc oday olim olow ohig othr ooff ocre orcp opay) rfl dX5_copyFrom_57 (fun H locs hP hD hS => ?_)
  refine lv_aload_n hx hb dX5_copyFrom_60 rfl (lv_at hl 0 rfl) ?_
  refine lv_aload_n hx hb dX5_copyFrom_61 rfl (lv_at hl 1 rfl) ?_
  refine x_get hx hb (C := RX5) (T := TX5) (N := 13) (ci := 5) hts iX5 hown hK hP 12 rfl rfl 6 (by decide) wd6 rfl (.int olow) rfl dX5_copyFrom_62 ?_
  refine x_put hx hb (C := RX5) (T := TX5) (N := 13) (ci := 5) hts iX5 tyX5 tyX5_ok nmX5 hown hK hP hD hS 0 rfl rfl 6 (by decide) wd6 rfl rfl (ty := .int) rfl rfl rfl (Nat.le_of_ble_eq_true rfl) (w' := wX5 cy a0 a1 a2 a3 a4 a5 a6 a7 a8 a9 a10 a11 Asz_1 Anu_2 Aba_3 Amo_4 Aco_5 Hsz_7 Hla_8 Hce_9 Bsz_11 Bla_12 Bce_13 Tma_15 Tlc_16 Ttc_17 oday olim olow hig thr off cre rcp pay ++ wX5 cy b0 b1 b2 b3 b4 b5 b6 b7 b8 b9 b10 b11 oAsz oAnu oAba oAmo oAco oHsz oHla oHce oBsz oBla oBce oTma oTlc oTtc oday olim olow ohig othr ooff ocre orcp opay) rfl dX5_copyFrom_65 (fun H locs hP hD hS => ?_)
  refine lv_aload_n hx hb dX5_copyFrom_68 rfl (lv_at hl 0 rfl) ?_
  refine lv_aload_n hx hb dX5_copyFrom_69 rfl (lv_at hl 1 rfl) ?_
  refine x_get hx hb (C := RX5) (T := TX5) (N := 13) (ci := 5) hts iX5 hown hK hP 12 rfl rfl 7 (by decide) wd7 rfl (.int ohig) rfl dX5_copyFrom_70 ?_
  refine x_put hx hb (C := RX5) (T := TX5) (N := 13) (ci := 5) hts iX5 tyX5 tyX5_ok nmX5 hown hK hP hD hS 0 rfl rfl 7 (by decide) wd7 rfl rfl (ty := .int) rfl rfl rfl (Nat.le_of_ble_eq_true rfl) (w' := wX5 cy a0 a1 a2 a3 a4 a5 a6 a7 a8 a9 a10 a11 Asz_1 Anu_2 Aba_3 Amo_4 Aco_5 Hsz_7 Hla_8 Hce_9 Bsz_11 Bla_12 Bce_13 Tma_15 Tlc_16 Ttc_17 oday olim olow ohig thr off cre rcp pay ++ wX5 cy b0 b1 b2 b3 b4 b5 b6 b7 b8 b9 b10 b11 oAsz oAnu oAba oAmo oAco oHsz oHla oHce oBsz oBla oBce oTma oTlc oTtc oday olim olow ohig othr ooff ocre orcp opay) rfl dX5_copyFrom_73 (fun H locs hP hD hS => ?_)
  refine lv_aload_n hx hb dX5_copyFrom_76 rfl (lv_at hl 0 rfl) ?_
  refine lv_aload_n hx hb dX5_copyFrom_77 rfl (lv_at hl 1 rfl) ?_
  refine x_get hx hb (C := RX5) (T := TX5) (N := 13) (ci := 5) hts iX5 hown hK hP 12 rfl rfl 8 (by decide) wd8 rfl (.int othr) rfl dX5_copyFrom_78 ?_
  refine x_put hx hb (C := RX5) (T := TX5) (N := 13) (ci := 5) hts iX5 tyX5 tyX5_ok nmX5 hown hK hP hD hS 0 rfl rfl 8 (by decide) wd8 rfl rfl (ty := .int) rfl rfl rfl (Nat.le_of_ble_eq_true rfl) (w' := wX5 cy a0 a1 a2 a3 a4 a5 a6 a7 a8 a9 a10 a11 Asz_1 Anu_2 Aba_3 Amo_4 Aco_5 Hsz_7 Hla_8 Hce_9 Bsz_11 Bla_12 Bce_13 Tma_15 Tlc_16 Ttc_17 oday olim olow ohig othr off cre rcp pay ++ wX5 cy b0 b1 b2 b3 b4 b5 b6 b7 b8 b9 b10 b11 oAsz oAnu oAba oAmo oAco oHsz oHla oHce oBsz oBla oBce oTma oTlc oTtc oday olim olow ohig othr ooff ocre orcp opay) rfl dX5_copyFrom_81 (fun H locs hP hD hS => ?_)
  refine lv_aload_n hx hb dX5_copyFrom_84 rfl (lv_at hl 0 rfl) ?_
  refine lv_aload_n hx hb dX5_copyFrom_85 rfl (lv_at hl 1 rfl) ?_
  refine x_get hx hb (C := RX5) (T := TX5) (N := 13) (ci := 5) hts iX5 hown hK hP 12 rfl rfl 9 (by decide) wd9 rfl (.long ooff) rfl dX5_copyFrom_86 ?_
  refine x_put hx hb (C := RX5) (T := TX5) (N := 13) (ci := 5) hts iX5 tyX5 tyX5_ok nmX5 hown hK hP hD hS 0 rfl rfl 9 (by decide) wd9 rfl rfl (ty := .long) rfl rfl rfl (Nat.le_of_ble_eq_true rfl) (w' := wX5 cy a0 a1 a2 a3 a4 a5 a6 a7 a8 a9 a10 a11 Asz_1 Anu_2 Aba_3 Amo_4 Aco_5 Hsz_7 Hla_8 Hce_9 Bsz_11 Bla_12 Bce_13 Tma_15 Tlc_16 Ttc_17 oday olim olow ohig othr ooff cre rcp pay ++ wX5 cy b0 b1 b2 b3 b4 b5 b6 b7 b8 b9 b10 b11 oAsz oAnu oAba oAmo oAco oHsz oHla oHce oBsz oBla oBce oTma oTlc oTtc oday olim olow ohig othr ooff ocre orcp opay) rfl dX5_copyFrom_89 (fun H locs hP hD hS => ?_)
  refine lv_aload_n hx hb dX5_copyFrom_92 rfl (lv_at hl 0 rfl) ?_
  refine lv_aload_n hx hb dX5_copyFrom_93 rfl (lv_at hl 1 rfl) ?_
  refine x_get hx hb (C := RX5) (T := TX5) (N := 13) (ci := 5) hts iX5 hown hK hP 12 rfl rfl 10 (by decide) wd10 rfl (.long ocre) rfl dX5_copyFrom_94 ?_
  refine x_put hx hb (C := RX5) (T := TX5) (N := 13) (ci := 5) hts iX5 tyX5 tyX5_ok nmX5 hown hK hP hD hS 0 rfl rfl 10 (by decide) wd10 rfl rfl (ty := .long) rfl rfl rfl (Nat.le_of_ble_eq_true rfl) (w' := wX5 cy a0 a1 a2 a3 a4 a5 a6 a7 a8 a9 a10 a11 Asz_1 Anu_2 Aba_3 Amo_4 Aco_5 Hsz_7 Hla_8 Hce_9 Bsz_11 Bla_12 Bce_13 Tma_15 Tlc_16 Ttc_17 oday olim olow ohig othr ooff ocre rcp pay ++ wX5 cy b0 b1 b2 b3 b4 b5 b6 b7 b8 b9 b10 b11 oAsz oAnu oAba oAmo oAco oHsz oHla oHce oBsz oBla oBce oTma oTlc oTtc oday olim olow ohig othr ooff ocre orcp opay) rfl dX5_copyFrom_97 (fun H locs hP hD hS => ?_)
  refine lv_aload_n hx hb dX5_copyFrom_100 rfl (lv_at hl 0 rfl) ?_
  refine lv_aload_n hx hb dX5_copyFrom_101 rfl (lv_at hl 1 rfl) ?_
  refine x_get hx hb (C := RX5) (T := TX5) (N := 13) (ci := 5) hts iX5 hown hK hP 12 rfl rfl 11 (by decide) wd11 rfl (.long orcp) rfl dX5_copyFrom_102 ?_
  refine x_put hx hb (C := RX5) (T := TX5) (N := 13) (ci := 5) hts iX5 tyX5 tyX5_ok nmX5 hown hK hP hD hS 0 rfl rfl 11 (by decide) wd11 rfl rfl (ty := .long) rfl rfl rfl (Nat.le_of_ble_eq_true rfl) (w' := wX5 cy a0 a1 a2 a3 a4 a5 a6 a7 a8 a9 a10 a11 Asz_1 Anu_2 Aba_3 Amo_4 Aco_5 Hsz_7 Hla_8 Hce_9 Bsz_11 Bla_12 Bce_13 Tma_15 Tlc_16 Ttc_17 oday olim olow ohig othr ooff ocre orcp pay ++ wX5 cy b0 b1 b2 b3 b4 b5 b6 b7 b8 b9 b10 b11 oAsz oAnu oAba oAmo oAco oHsz oHla oHce oBsz oBla oBce oTma oTlc oTtc oday olim olow ohig othr ooff ocre orcp opay) rfl dX5_copyFrom_105 (fun H locs hP hD hS => ?_)
  refine lv_aload_n hx hb dX5_copyFrom_108 rfl (lv_at hl 0 rfl) ?_
  refine lv_aload_n hx hb dX5_copyFrom_109 rfl (lv_at hl 1 rfl) ?_
  refine x_get hx hb (C := RX5) (T := TX5) (N := 13) (ci := 5) hts iX5 hown hK hP 12 rfl rfl 12 (by decide) wd12 rfl (.long opay) rfl dX5_copyFrom_110 ?_
  refine x_put hx hb (C := RX5) (T := TX5) (N := 13) (ci := 5) hts iX5 tyX5 tyX5_ok nmX5 hown hK hP hD hS 0 rfl rfl 12 (by decide) wd12 rfl rfl (ty := .long) rfl rfl rfl (Nat.le_of_ble_eq_true rfl) (w' := wX5 cy a0 a1 a2 a3 a4 a5 a6 a7 a8 a9 a10 a11 Asz_1 Anu_2 Aba_3 Amo_4 Aco_5 Hsz_7 Hla_8 Hce_9 Bsz_11 Bla_12 Bce_13 Tma_15 Tlc_16 Ttc_17 oday olim olow ohig othr ooff ocre orcp opay ++ wX5 cy b0 b1 b2 b3 b4 b5 b6 b7 b8 b9 b10 b11 oAsz oAnu oAba oAmo oAco oHsz oHla oHce oBsz oBla oBce oTma oTlc oTtc oday olim olow ohig othr ooff ocre orcp opay) rfl dX5_copyFrom_113 (fun H locs hP hD hS => ?_)
  have hf := Option.some.inj hf
  cases hf
  exact x_vret hx hb hr hlocks hK hP hD hS dX5_copyFrom_116
theorem kdX5_freeAt : yX5_freeAt.cls = RX5 ∧ yX5_freeAt.cls ≠ "java/lang/invoke/MethodHandle" ∧ yX5_freeAt.cls ≠ "java/lang/invoke/VarHandle" ∧ (parseMethodDescriptor yX5_freeAt.desc).map (fun d => d.parameters.length) = some 1 := by decide +kernel
def rmX5_freeAt : Room := { frames := 2, cells := 0, slots := 0, locals := 46 }
set_option maxHeartbeats 4000000 in
set_option maxRecDepth 100000 in
theorem mX5_freeAt (l : Launch) (D : va_G) (cy : Nat → ClassId) (a0 a1 a2 a3 a4 a5 a6 a7 a8 a9 a10 a11 : Nat) (Asz : Int32) (Anu : Nat → Int32) (Aba : Nat → Int32) (Amo : Nat → Int32) (Aco : Nat → Int64) (Hsz : Int32) (Hla : Int32) (Hce : Nat → Int32) (Bsz : Int32) (Bla : Int32) (Bce : Nat → Int32) (Tma : Int32) (Tlc : Int32) (Ttc : Nat → Int32) (day : Int32) (lim : Int32) (low : Int32) (hig : Int32) (thr : Int32) (off : Int64) (cre : Int64) (rcp : Int64) (pay : Int64) (p1 : Int32) (r : Int32) (hf : fX5_freeAt Asz Anu Aba Hsz Hce p1 = some r) : xMi l D cy yX5_freeAt aX5_freeAt rmX5_freeAt ([.ref a0, .int p1] : List Value) (wX5 cy a0 a1 a2 a3 a4 a5 a6 a7 a8 a9 a10 a11 Asz Anu Aba Amo Aco Hsz Hla Hce Bsz Bla Bce Tma Tlc Ttc day lim low hig thr off cre rcp pay) (wX5 cy a0 a1 a2 a3 a4 a5 a6 a7 a8 a9 a10 a11 Asz Anu Aba Amo Aco Hsz Hla Hce Bsz Bla Bce Tma Tlc Ttc day lim low hig thr off cre rcp pay) r := by
  intro hz
  refine x_start (Qc := xQi D cy _ r) (cc := cX5_freeAt) (maxL := 2) (ret := (some .int)) (by decide) rfl (Nat.le_of_ble_eq_true rfl) (lv := [(0, .ref a0), (1, .int p1)]) rfl ?_
  intro p e s m below meth c ls A hx hb hr hml hown hts hlocks hK hP hD hS hA hN hl
  have hown : s.vm.findClass RX5 = some m.cls := hown
  have hbg : ∀ w ∈ wsL_law, w ∈ aX5_freeAt := fun w h => List.mem_cons_of_mem _ h
  have wd0 : (Cond.fieldLink RX5 12 "ClientMoneyBook$State" "accounts" "LClientMoneyBook$Accounts;").before ([.ref a0, .int p1] : List Value).toArray s = true := hts _ (List.mem_cons_of_mem _ wm_1_20)
  have wd1 : (Cond.fieldLink RX5 21 "ClientMoneyBook$State" "holds" "LClientMoneyBook$Rows;").before ([.ref a0, .int p1] : List Value).toArray s = true := hts _ (List.mem_cons_of_mem _ wm_2_0)
  have iX5 : ∀ w ∈ u_ws RX5 TX5 13, w ∈ aX5_freeAt := fun w h => List.mem_cons_of_mem _ (inlX5 w h)
  unfold fX5_freeAt at hf
  refine lv_aload_n hx hb dX5_freeAt_0 rfl (lv_at hl 0 rfl) ?_
  refine x_get hx hb (C := RX5) (T := TX5) (N := 13) (ci := 5) hts iX5 hown hK hP 0 rfl rfl 0 (by decide) wd0 rfl (.ref a1) rfl dX5_freeAt_1 ?_
  refine lv_iload_n hx hb dX5_freeAt_4 rfl (lv_at hl 1 rfl) ?_
  obtain ⟨r_1, h_2, hf⟩ := bd1_el hf
  refine x_callVi (As := [.int p1]) (rest := []) ⟨hx, hb, hml, hown, hts⟩ (mX0_balanceAt l D cy a1 a2 a3 a4 a5 Asz Anu Aba Amo Aco p1 r_1 h_2) (cwV 1 hts (gcV_X0_balanceAt hbg wm_8_13) rfl rfl rfl kdX0_balanceAt ⟨Nat.le_of_ble_eq_true rfl, Nat.le_of_ble_eq_true rfl⟩) (w1 := [(a0, .inr (5, [.ref a1, .ref a6, .ref a8, .ref a10, .int day, .int lim, .int low, .int hig, .int thr, .long off, .long cre, .long rcp, .long pay]))]) (w2 := wX4 cy a6 a7 Hsz Hla Hce ++ (wX4 cy a8 a9 Bsz Bla Bce ++ (wX6 cy a10 a11 Tma Tlc Ttc))) (w' := wX5 cy a0 a1 a2 a3 a4 a5 a6 a7 a8 a9 a10 a11 Asz Anu Aba Amo Aco Hsz Hla Hce Bsz Bla Bce Tma Tlc Ttc day lim low hig thr off cre rcp pay) rfl rfl hP hK hD hN hS hA (q0 := 0) rfl rfl rfl rfl hl rfl (Nat.le_of_ble_eq_true rfl) dX5_freeAt_5 ⟨Nat.zero_le _, Nat.zero_le _⟩ (fun H locs hP hD hS => ?_)
  refine lv_aload_n hx hb dX5_freeAt_8 rfl (lv_at hl 0 rfl) ?_
  refine x_get hx hb (C := RX5) (T := TX5) (N := 13) (ci := 5) hts iX5 hown hK hP 0 rfl rfl 1 (by decide) wd1 rfl (.ref a6) rfl dX5_freeAt_9 ?_
  refine lv_aload_n hx hb dX5_freeAt_12 rfl (lv_at hl 0 rfl) ?_
  refine x_get hx hb (C := RX5) (T := TX5) (N := 13) (ci := 5) hts iX5 hown hK hP 0 rfl rfl 0 (by decide) wd0 rfl (.ref a1) rfl dX5_freeAt_13 ?_
  refine lv_iload_n hx hb dX5_freeAt_16 rfl (lv_at hl 1 rfl) ?_
  obtain ⟨r_3, h_4, hf⟩ := bd1_el hf
  refine x_callVi (As := [.int p1]) (rest := [.ref a6, .int r_1]) ⟨hx, hb, hml, hown, hts⟩ (mX0_numberAt l D cy a1 a2 a3 a4 a5 Asz Anu Aba Amo Aco p1 r_3 h_4) (cwV 1 hts (gcV_X0_numberAt hbg wm_11_1) rfl rfl rfl kdX0_numberAt ⟨Nat.le_of_ble_eq_true rfl, Nat.le_of_ble_eq_true rfl⟩) (w1 := [(a0, .inr (5, [.ref a1, .ref a6, .ref a8, .ref a10, .int day, .int lim, .int low, .int hig, .int thr, .long off, .long cre, .long rcp, .long pay]))]) (w2 := wX4 cy a6 a7 Hsz Hla Hce ++ (wX4 cy a8 a9 Bsz Bla Bce ++ (wX6 cy a10 a11 Tma Tlc Ttc))) (w' := wX5 cy a0 a1 a2 a3 a4 a5 a6 a7 a8 a9 a10 a11 Asz Anu Aba Amo Aco Hsz Hla Hce Bsz Bla Bce Tma Tlc Ttc day lim low hig thr off cre rcp pay) rfl rfl hP hK hD hN hS hA (q0 := 0) rfl rfl rfl rfl hl rfl (Nat.le_of_ble_eq_true rfl) dX5_freeAt_17 ⟨Nat.zero_le _, Nat.zero_le _⟩ (fun H locs hP hD hS => ?_)
  refine lv_iconst (v := 2) hx hb dX5_freeAt_20 (by decide) ?_
  obtain ⟨r_5, h_6, hf⟩ := bd1_el hf
  refine x_callVi (As := [.int r_3, .int 2]) (rest := [.int r_1]) ⟨hx, hb, hml, hown, hts⟩ (mX4_sumOf l D cy a6 a7 Hsz Hla Hce r_3 2 r_5 h_6) (cwV 2 hts (gcV_X4_sumOf hbg wm_11_2) rfl rfl rfl kdX4_sumOf ⟨Nat.le_of_ble_eq_true rfl, Nat.le_of_ble_eq_true rfl⟩) (w1 := [(a0, .inr (5, [.ref a1, .ref a6, .ref a8, .ref a10, .int day, .int lim, .int low, .int hig, .int thr, .long off, .long cre, .long rcp, .long pay]))] ++ (wX0 cy a1 a2 a3 a4 a5 Asz Anu Aba Amo Aco)) (w2 := wX4 cy a8 a9 Bsz Bla Bce ++ (wX6 cy a10 a11 Tma Tlc Ttc)) (w' := wX5 cy a0 a1 a2 a3 a4 a5 a6 a7 a8 a9 a10 a11 Asz Anu Aba Amo Aco Hsz Hla Hce Bsz Bla Bce Tma Tlc Ttc day lim low hig thr off cre rcp pay) rfl rfl hP hK hD hN hS hA (q0 := 0) rfl rfl rfl rfl hl rfl (Nat.le_of_ble_eq_true rfl) dX5_freeAt_21 ⟨Nat.zero_le _, Nat.zero_le _⟩ (fun H locs hP hD hS => ?_)
  refine lv_isub hx hb dX5_freeAt_24 ?_
  have hf := Option.some.inj hf
  cases hf
  exact x_iret hx hb hr hlocks hK hP hD hS dX5_freeAt_25
theorem kdX5_changeRates : yX5_changeRates.cls = RX5 ∧ yX5_changeRates.cls ≠ "java/lang/invoke/MethodHandle" ∧ yX5_changeRates.cls ≠ "java/lang/invoke/VarHandle" ∧ (parseMethodDescriptor yX5_changeRates.desc).map (fun d => d.parameters.length) = some 3 := by decide +kernel
def rmX5_changeRates : Room := { frames := 0, cells := 0, slots := 0, locals := 0 }
set_option maxHeartbeats 4000000 in
set_option maxRecDepth 100000 in
theorem mX5_changeRates (l : Launch) (D : va_G) (cy : Nat → ClassId) (a0 a1 a2 a3 a4 a5 a6 a7 a8 a9 a10 a11 : Nat) (Asz : Int32) (Anu : Nat → Int32) (Aba : Nat → Int32) (Amo : Nat → Int32) (Aco : Nat → Int64) (Hsz : Int32) (Hla : Int32) (Hce : Nat → Int32) (Bsz : Int32) (Bla : Int32) (Bce : Nat → Int32) (Tma : Int32) (Tlc : Int32) (Ttc : Nat → Int32) (day : Int32) (lim : Int32) (low : Int32) (hig : Int32) (thr : Int32) (off : Int64) (cre : Int64) (rcp : Int64) (pay : Int64) (p1 : Int32) (p2 : Int32) (p3 : Int32) (r : Int32) (lim' : Int32) (low' : Int32) (hig' : Int32) (hf : fX5_changeRates lim low hig p1 p2 p3 = some (r, lim', low', hig')) : xMi l D cy yX5_changeRates aX5_changeRates rmX5_changeRates ([.ref a0, .int p1, .int p2, .int p3] : List Value) (wX5 cy a0 a1 a2 a3 a4 a5 a6 a7 a8 a9 a10 a11 Asz Anu Aba Amo Aco Hsz Hla Hce Bsz Bla Bce Tma Tlc Ttc day lim low hig thr off cre rcp pay) (wX5 cy a0 a1 a2 a3 a4 a5 a6 a7 a8 a9 a10 a11 Asz Anu Aba Amo Aco Hsz Hla Hce Bsz Bla Bce Tma Tlc Ttc day lim' low' hig' thr off cre rcp pay) r := by
  intro hz
  refine x_start (Qc := xQi D cy _ r) (cc := cX5_changeRates) (maxL := 5) (ret := (some .int)) (by decide) rfl (Nat.le_of_ble_eq_true rfl) (lv := [(0, .ref a0), (1, .int p1), (2, .int p2), (3, .int p3)]) rfl ?_
  intro p e s m below meth c ls A hx hb hr hml hown hts hlocks hK hP hD hS hA hN hl
  have hown : s.vm.findClass RX5 = some m.cls := hown
  have hbg : ∀ w ∈ wsL_law, w ∈ aX5_changeRates := fun w h => List.mem_cons_of_mem _ h
  have wd0 : (Cond.constant RX5 75 (1000000000)).before ([.ref a0, .int p1, .int p2, .int p3] : List Value).toArray s = true := hts _ (List.mem_cons_of_mem _ wm_8_9)
  have wd1 : (Cond.fieldLink RX5 40 "ClientMoneyBook$State" "limit" "I").before ([.ref a0, .int p1, .int p2, .int p3] : List Value).toArray s = true := hts _ (List.mem_cons_of_mem _ wm_2_8)
  have wd2 : (Cond.fieldLink RX5 43 "ClientMoneyBook$State" "low" "I").before ([.ref a0, .int p1, .int p2, .int p3] : List Value).toArray s = true := hts _ (List.mem_cons_of_mem _ wm_2_9)
  have wd3 : (Cond.fieldLink RX5 46 "ClientMoneyBook$State" "high" "I").before ([.ref a0, .int p1, .int p2, .int p3] : List Value).toArray s = true := hts _ (List.mem_cons_of_mem _ wm_2_10)
  have iX5 : ∀ w ∈ u_ws RX5 TX5 13, w ∈ aX5_changeRates := fun w h => List.mem_cons_of_mem _ (inlX5 w h)
  unfold fX5_changeRates at hf
  refine lv_iload_n hx hb dX5_changeRates_0 rfl (lv_at hl 1 rfl) ?_
  refine lv_if_lt (tgt := 32) hx hb dX5_changeRates_1 (by decide) (fun c_1 => ?_) (fun c_1 => ?_)
  · have hf := x_t c_1 hf
    refine lv_bipush (v := (-2)) hx hb dX5_changeRates_32 (by decide) ?_
    have hf := Option.some.inj hf
    cases hf
    exact x_iret hx hb hr hlocks hK hP hD hS dX5_changeRates_34
  · have hf := x_f c_1 hf
    refine lv_iload_n hx hb dX5_changeRates_4 rfl (lv_at hl 1 rfl) ?_
    refine lv_ldc hx hb hown wd0 dX5_changeRates_5 ?_
    refine lv_icmp_gt (tgt := 32) hx hb dX5_changeRates_7 (by decide) (fun c_2 => ?_) (fun c_2 => ?_)
    · have hf := x_t c_2 hf
      refine lv_bipush (v := (-2)) hx hb dX5_changeRates_32 (by decide) ?_
      have hf := Option.some.inj hf
      cases hf
      exact x_iret hx hb hr hlocks hK hP hD hS dX5_changeRates_34
    · have hf := x_f c_2 hf
      refine lv_iload_n hx hb dX5_changeRates_10 rfl (lv_at hl 2 rfl) ?_
      refine lv_if_lt (tgt := 32) hx hb dX5_changeRates_11 (by decide) (fun c_3 => ?_) (fun c_3 => ?_)
      · have hf := x_t c_3 hf
        refine lv_bipush (v := (-2)) hx hb dX5_changeRates_32 (by decide) ?_
        have hf := Option.some.inj hf
        cases hf
        exact x_iret hx hb hr hlocks hK hP hD hS dX5_changeRates_34
      · have hf := x_f c_3 hf
        refine lv_iload_n hx hb dX5_changeRates_14 rfl (lv_at hl 2 rfl) ?_
        refine lv_sipush (v := 2000) hx hb dX5_changeRates_15 (by decide) ?_
        refine lv_icmp_gt (tgt := 32) hx hb dX5_changeRates_18 (by decide) (fun c_4 => ?_) (fun c_4 => ?_)
        · have hf := x_t c_4 hf
          refine lv_bipush (v := (-2)) hx hb dX5_changeRates_32 (by decide) ?_
          have hf := Option.some.inj hf
          cases hf
          exact x_iret hx hb hr hlocks hK hP hD hS dX5_changeRates_34
        · have hf := x_f c_4 hf
          refine lv_iload_n hx hb dX5_changeRates_21 rfl (lv_at hl 3 rfl) ?_
          refine lv_if_lt (tgt := 32) hx hb dX5_changeRates_22 (by decide) (fun c_5 => ?_) (fun c_5 => ?_)
          · have hf := x_t c_5 hf
            refine lv_bipush (v := (-2)) hx hb dX5_changeRates_32 (by decide) ?_
            have hf := Option.some.inj hf
            cases hf
            exact x_iret hx hb hr hlocks hK hP hD hS dX5_changeRates_34
          · have hf := x_f c_5 hf
            refine lv_iload_n hx hb dX5_changeRates_25 rfl (lv_at hl 3 rfl) ?_
            refine lv_sipush (v := 2000) hx hb dX5_changeRates_26 (by decide) ?_
            refine lv_icmp_le (tgt := 35) hx hb dX5_changeRates_29 (by decide) (fun c_6 => ?_) (fun c_6 => ?_)
            · have hf := x_t c_6 hf
              refine lv_aload_n hx hb dX5_changeRates_35 rfl (lv_at hl 0 rfl) ?_
              refine x_get hx hb (C := RX5) (T := TX5) (N := 13) (ci := 5) hts iX5 hown hK hP 0 rfl rfl 5 (by decide) wd1 rfl (.int lim) rfl dX5_changeRates_36 ?_
              refine lv_istore (lv' := [(4, .int lim), (0, .ref a0), (1, .int p1), (2, .int p2), (3, .int p3)]) hx hb dX5_changeRates_39 hl (by decide) rfl (fun ls hl => ?_)
              refine lv_aload_n hx hb dX5_changeRates_41 rfl (lv_at hl 1 rfl) ?_
              refine lv_iload_n hx hb dX5_changeRates_42 rfl (lv_at hl 2 rfl) ?_
              refine x_put hx hb (C := RX5) (T := TX5) (N := 13) (ci := 5) hts iX5 tyX5 tyX5_ok nmX5 hown hK hP hD hS 0 rfl rfl 5 (by decide) wd1 rfl rfl (ty := .int) rfl rfl rfl (Nat.le_of_ble_eq_true rfl) (w' := wX5 cy a0 a1 a2 a3 a4 a5 a6 a7 a8 a9 a10 a11 Asz Anu Aba Amo Aco Hsz Hla Hce Bsz Bla Bce Tma Tlc Ttc day p1 low hig thr off cre rcp pay) rfl dX5_changeRates_43 (fun H locs hP hD hS => ?_)
              refine lv_aload_n hx hb dX5_changeRates_46 rfl (lv_at hl 1 rfl) ?_
              refine lv_iload_n hx hb dX5_changeRates_47 rfl (lv_at hl 3 rfl) ?_
              refine x_put hx hb (C := RX5) (T := TX5) (N := 13) (ci := 5) hts iX5 tyX5 tyX5_ok nmX5 hown hK hP hD hS 0 rfl rfl 6 (by decide) wd2 rfl rfl (ty := .int) rfl rfl rfl (Nat.le_of_ble_eq_true rfl) (w' := wX5 cy a0 a1 a2 a3 a4 a5 a6 a7 a8 a9 a10 a11 Asz Anu Aba Amo Aco Hsz Hla Hce Bsz Bla Bce Tma Tlc Ttc day p1 p2 hig thr off cre rcp pay) rfl dX5_changeRates_48 (fun H locs hP hD hS => ?_)
              refine lv_aload_n hx hb dX5_changeRates_51 rfl (lv_at hl 1 rfl) ?_
              refine lv_iload_n hx hb dX5_changeRates_52 rfl (lv_at hl 4 rfl) ?_
              refine x_put hx hb (C := RX5) (T := TX5) (N := 13) (ci := 5) hts iX5 tyX5 tyX5_ok nmX5 hown hK hP hD hS 0 rfl rfl 7 (by decide) wd3 rfl rfl (ty := .int) rfl rfl rfl (Nat.le_of_ble_eq_true rfl) (w' := wX5 cy a0 a1 a2 a3 a4 a5 a6 a7 a8 a9 a10 a11 Asz Anu Aba Amo Aco Hsz Hla Hce Bsz Bla Bce Tma Tlc Ttc day p1 p2 p3 thr off cre rcp pay) rfl dX5_changeRates_53 (fun H locs hP hD hS => ?_)
              refine lv_iload hx hb dX5_changeRates_56 (lv_at hl 0 rfl) ?_
              have hf := Option.some.inj hf
              cases hf
              exact x_iret hx hb hr hlocks hK hP hD hS dX5_changeRates_58
            · have hf := x_f c_6 hf
              refine lv_bipush (v := (-2)) hx hb dX5_changeRates_32 (by decide) ?_
              have hf := Option.some.inj hf
              cases hf
              exact x_iret hx hb hr hlocks hK hP hD hS dX5_changeRates_34
theorem kdX5_changeThreshold : yX5_changeThreshold.cls = RX5 ∧ yX5_changeThreshold.cls ≠ "java/lang/invoke/MethodHandle" ∧ yX5_changeThreshold.cls ≠ "java/lang/invoke/VarHandle" ∧ (parseMethodDescriptor yX5_changeThreshold.desc).map (fun d => d.parameters.length) = some 1 := by decide +kernel
def rmX5_changeThreshold : Room := { frames := 0, cells := 0, slots := 0, locals := 0 }
set_option maxHeartbeats 4000000 in
set_option maxRecDepth 100000 in
theorem mX5_changeThreshold (l : Launch) (D : va_G) (cy : Nat → ClassId) (a0 a1 a2 a3 a4 a5 a6 a7 a8 a9 a10 a11 : Nat) (Asz : Int32) (Anu : Nat → Int32) (Aba : Nat → Int32) (Amo : Nat → Int32) (Aco : Nat → Int64) (Hsz : Int32) (Hla : Int32) (Hce : Nat → Int32) (Bsz : Int32) (Bla : Int32) (Bce : Nat → Int32) (Tma : Int32) (Tlc : Int32) (Ttc : Nat → Int32) (day : Int32) (lim : Int32) (low : Int32) (hig : Int32) (thr : Int32) (off : Int64) (cre : Int64) (rcp : Int64) (pay : Int64) (p1 : Int32) (r : Int32) (thr' : Int32) (hf : fX5_changeThreshold thr p1 = some (r, thr')) : xMi l D cy yX5_changeThreshold aX5_changeThreshold rmX5_changeThreshold ([.ref a0, .int p1] : List Value) (wX5 cy a0 a1 a2 a3 a4 a5 a6 a7 a8 a9 a10 a11 Asz Anu Aba Amo Aco Hsz Hla Hce Bsz Bla Bce Tma Tlc Ttc day lim low hig thr off cre rcp pay) (wX5 cy a0 a1 a2 a3 a4 a5 a6 a7 a8 a9 a10 a11 Asz Anu Aba Amo Aco Hsz Hla Hce Bsz Bla Bce Tma Tlc Ttc day lim low hig thr' off cre rcp pay) r := by
  intro hz
  refine x_start (Qc := xQi D cy _ r) (cc := cX5_changeThreshold) (maxL := 3) (ret := (some .int)) (by decide) rfl (Nat.le_of_ble_eq_true rfl) (lv := [(0, .ref a0), (1, .int p1)]) rfl ?_
  intro p e s m below meth c ls A hx hb hr hml hown hts hlocks hK hP hD hS hA hN hl
  have hown : s.vm.findClass RX5 = some m.cls := hown
  have hbg : ∀ w ∈ wsL_law, w ∈ aX5_changeThreshold := fun w h => List.mem_cons_of_mem _ h
  have wd0 : (Cond.fieldLink RX5 49 "ClientMoneyBook$State" "threshold" "I").before ([.ref a0, .int p1] : List Value).toArray s = true := hts _ (List.mem_cons_of_mem _ wm_2_11)
  have iX5 : ∀ w ∈ u_ws RX5 TX5 13, w ∈ aX5_changeThreshold := fun w h => List.mem_cons_of_mem _ (inlX5 w h)
  unfold fX5_changeThreshold at hf
  refine lv_iload_n hx hb dX5_changeThreshold_0 rfl (lv_at hl 1 rfl) ?_
  refine lv_if_lt (tgt := 11) hx hb dX5_changeThreshold_1 (by decide) (fun c_1 => ?_) (fun c_1 => ?_)
  · have hf := x_t c_1 hf
    refine lv_bipush (v := (-2)) hx hb dX5_changeThreshold_11 (by decide) ?_
    have hf := Option.some.inj hf
    cases hf
    exact x_iret hx hb hr hlocks hK hP hD hS dX5_changeThreshold_13
  · have hf := x_f c_1 hf
    refine lv_iload_n hx hb dX5_changeThreshold_4 rfl (lv_at hl 1 rfl) ?_
    refine lv_sipush (v := 10000) hx hb dX5_changeThreshold_5 (by decide) ?_
    refine lv_icmp_le (tgt := 14) hx hb dX5_changeThreshold_8 (by decide) (fun c_2 => ?_) (fun c_2 => ?_)
    · have hf := x_t c_2 hf
      refine lv_aload_n hx hb dX5_changeThreshold_14 rfl (lv_at hl 0 rfl) ?_
      refine x_get hx hb (C := RX5) (T := TX5) (N := 13) (ci := 5) hts iX5 hown hK hP 0 rfl rfl 8 (by decide) wd0 rfl (.int thr) rfl dX5_changeThreshold_15 ?_
      refine lv_istore_n (lv' := [(2, .int thr), (0, .ref a0), (1, .int p1)]) hx hb dX5_changeThreshold_18 rfl hl (by decide) rfl (fun ls hl => ?_)
      refine lv_aload_n hx hb dX5_changeThreshold_19 rfl (lv_at hl 1 rfl) ?_
      refine lv_iload_n hx hb dX5_changeThreshold_20 rfl (lv_at hl 2 rfl) ?_
      refine x_put hx hb (C := RX5) (T := TX5) (N := 13) (ci := 5) hts iX5 tyX5 tyX5_ok nmX5 hown hK hP hD hS 0 rfl rfl 8 (by decide) wd0 rfl rfl (ty := .int) rfl rfl rfl (Nat.le_of_ble_eq_true rfl) (w' := wX5 cy a0 a1 a2 a3 a4 a5 a6 a7 a8 a9 a10 a11 Asz Anu Aba Amo Aco Hsz Hla Hce Bsz Bla Bce Tma Tlc Ttc day lim low hig p1 off cre rcp pay) rfl dX5_changeThreshold_21 (fun H locs hP hD hS => ?_)
      refine lv_iload_n hx hb dX5_changeThreshold_24 rfl (lv_at hl 0 rfl) ?_
      have hf := Option.some.inj hf
      cases hf
      exact x_iret hx hb hr hlocks hK hP hD hS dX5_changeThreshold_25
    · have hf := x_f c_2 hf
      refine lv_bipush (v := (-2)) hx hb dX5_changeThreshold_11 (by decide) ?_
      have hf := Option.some.inj hf
      cases hf
      exact x_iret hx hb hr hlocks hK hP hD hS dX5_changeThreshold_13
theorem kdX5_openAccount : yX5_openAccount.cls = RX5 ∧ yX5_openAccount.cls ≠ "java/lang/invoke/MethodHandle" ∧ yX5_openAccount.cls ≠ "java/lang/invoke/VarHandle" ∧ (parseMethodDescriptor yX5_openAccount.desc).map (fun d => d.parameters.length) = some 1 := by decide +kernel
def rmX5_openAccount : Room := { frames := 3, cells := 0, slots := 0, locals := 66 }
set_option maxHeartbeats 4000000 in
set_option maxRecDepth 100000 in
theorem mX5_openAccount (l : Launch) (D : va_G) (cy : Nat → ClassId) (a0 a1 a2 a3 a4 a5 a6 a7 a8 a9 a10 a11 : Nat) (Asz : Int32) (Anu : Nat → Int32) (Aba : Nat → Int32) (Amo : Nat → Int32) (Aco : Nat → Int64) (Hsz : Int32) (Hla : Int32) (Hce : Nat → Int32) (Bsz : Int32) (Bla : Int32) (Bce : Nat → Int32) (Tma : Int32) (Tlc : Int32) (Ttc : Nat → Int32) (day : Int32) (lim : Int32) (low : Int32) (hig : Int32) (thr : Int32) (off : Int64) (cre : Int64) (rcp : Int64) (pay : Int64) (p1 : Int32) (r : Int32) (Asz' : Int32) (Anu' : Nat → Int32) (Aba' : Nat → Int32) (Amo' : Nat → Int32) (Aco' : Nat → Int64) (hf : fX5_openAccount Asz Anu Aba Amo Aco day p1 = some (r, Asz', Anu', Aba', Amo', Aco')) : xMi l D cy yX5_openAccount aX5_openAccount rmX5_openAccount ([.ref a0, .int p1] : List Value) (wX5 cy a0 a1 a2 a3 a4 a5 a6 a7 a8 a9 a10 a11 Asz Anu Aba Amo Aco Hsz Hla Hce Bsz Bla Bce Tma Tlc Ttc day lim low hig thr off cre rcp pay) (wX5 cy a0 a1 a2 a3 a4 a5 a6 a7 a8 a9 a10 a11 Asz' Anu' Aba' Amo' Aco' Hsz Hla Hce Bsz Bla Bce Tma Tlc Ttc day lim low hig thr off cre rcp pay) r := by
  intro hz
  refine x_start (Qc := xQi D cy _ r) (cc := cX5_openAccount) (maxL := 2) (ret := (some .int)) (by decide) rfl (Nat.le_of_ble_eq_true rfl) (lv := [(0, .ref a0), (1, .int p1)]) rfl ?_
  intro p e s m below meth c ls A hx hb hr hml hown hts hlocks hK hP hD hS hA hN hl
  have hown : s.vm.findClass RX5 = some m.cls := hown
  have hbg : ∀ w ∈ wsL_law, w ∈ aX5_openAccount := fun w h => List.mem_cons_of_mem _ h
  have wd0 : (Cond.fieldLink RX5 12 "ClientMoneyBook$State" "accounts" "LClientMoneyBook$Accounts;").before ([.ref a0, .int p1] : List Value).toArray s = true := hts _ (List.mem_cons_of_mem _ wm_1_20)
  have wd1 : (Cond.fieldLink RX5 80 "ClientMoneyBook$Accounts" "size" "I").before ([.ref a0, .int p1] : List Value).toArray s = true := hts _ (List.mem_cons_of_mem _ wm_6_13)
  have wd2 : (Cond.fieldLink RX5 35 "ClientMoneyBook$State" "day" "I").before ([.ref a0, .int p1] : List Value).toArray s = true := hts _ (List.mem_cons_of_mem _ wm_2_6)
  have iX0 : ∀ w ∈ u_ws RX0 TX0 5, w ∈ aX5_openAccount := fun w h => List.mem_cons_of_mem _ (inlX0 w h)
  have iX5 : ∀ w ∈ u_ws RX5 TX5 13, w ∈ aX5_openAccount := fun w h => List.mem_cons_of_mem _ (inlX5 w h)
  unfold fX5_openAccount at hf
  refine lv_iload_n hx hb dX5_openAccount_0 rfl (lv_at hl 1 rfl) ?_
  refine lv_iconst (v := 1) hx hb dX5_openAccount_1 (by decide) ?_
  refine lv_icmp_lt (tgt := 11) hx hb dX5_openAccount_2 (by decide) (fun c_1 => ?_) (fun c_1 => ?_)
  · have hf := x_t c_1 hf
    refine lv_bipush (v := (-2)) hx hb dX5_openAccount_11 (by decide) ?_
    have hf := Option.some.inj hf
    cases hf
    exact x_iret hx hb hr hlocks hK hP hD hS dX5_openAccount_13
  · have hf := x_f c_1 hf
    refine lv_iload_n hx hb dX5_openAccount_5 rfl (lv_at hl 1 rfl) ?_
    refine lv_bipush (v := 99) hx hb dX5_openAccount_6 (by decide) ?_
    refine lv_icmp_le (tgt := 14) hx hb dX5_openAccount_8 (by decide) (fun c_2 => ?_) (fun c_2 => ?_)
    · have hf := x_t c_2 hf
      refine lv_aload_n hx hb dX5_openAccount_14 rfl (lv_at hl 0 rfl) ?_
      refine x_get hx hb (C := RX5) (T := TX5) (N := 13) (ci := 5) hts iX5 hown hK hP 0 rfl rfl 0 (by decide) wd0 rfl (.ref a1) rfl dX5_openAccount_15 ?_
      refine lv_iload_n hx hb dX5_openAccount_18 rfl (lv_at hl 1 rfl) ?_
      obtain ⟨r_3, h_4, hf⟩ := bd1_el hf
      refine x_callVi (As := [.int p1]) (rest := []) ⟨hx, hb, hml, hown, hts⟩ (mX0_find l D cy a1 a2 a3 a4 a5 Asz Anu Aba Amo Aco p1 r_3 h_4) (cwV 1 hts (gcV_X0_find hbg wm_6_14) rfl rfl rfl kdX0_find ⟨Nat.le_of_ble_eq_true rfl, Nat.le_of_ble_eq_true rfl⟩) (w1 := [(a0, .inr (5, [.ref a1, .ref a6, .ref a8, .ref a10, .int day, .int lim, .int low, .int hig, .int thr, .long off, .long cre, .long rcp, .long pay]))]) (w2 := wX4 cy a6 a7 Hsz Hla Hce ++ (wX4 cy a8 a9 Bsz Bla Bce ++ (wX6 cy a10 a11 Tma Tlc Ttc))) (w' := wX5 cy a0 a1 a2 a3 a4 a5 a6 a7 a8 a9 a10 a11 Asz Anu Aba Amo Aco Hsz Hla Hce Bsz Bla Bce Tma Tlc Ttc day lim low hig thr off cre rcp pay) rfl rfl hP hK hD hN hS hA (q0 := 0) rfl rfl rfl rfl hl rfl (Nat.le_of_ble_eq_true rfl) dX5_openAccount_19 ⟨Nat.zero_le _, Nat.zero_le _⟩ (fun H locs hP hD hS => ?_)
      refine lv_if_lt (tgt := 28) hx hb dX5_openAccount_22 (by decide) (fun c_5 => ?_) (fun c_5 => ?_)
      · have hf := x_t c_5 hf
        refine lv_aload_n hx hb dX5_openAccount_28 rfl (lv_at hl 0 rfl) ?_
        refine x_get hx hb (C := RX5) (T := TX5) (N := 13) (ci := 5) hts iX5 hown hK hP 0 rfl rfl 0 (by decide) wd0 rfl (.ref a1) rfl dX5_openAccount_29 ?_
        refine x_get hx hb (C := RX0) (T := TX0) (N := 5) (ci := 0) hts iX0 hown hK hP 1 rfl rfl 0 (by decide) wd1 rfl (.int Asz) rfl dX5_openAccount_32 ?_
        refine lv_bipush (v := 12) hx hb dX5_openAccount_35 (by decide) ?_
        refine lv_icmp_lt (tgt := 43) hx hb dX5_openAccount_37 (by decide) (fun c_6 => ?_) (fun c_6 => ?_)
        · have hf := x_t c_6 hf
          refine lv_aload_n hx hb dX5_openAccount_43 rfl (lv_at hl 0 rfl) ?_
          refine x_get hx hb (C := RX5) (T := TX5) (N := 13) (ci := 5) hts iX5 hown hK hP 0 rfl rfl 0 (by decide) wd0 rfl (.ref a1) rfl dX5_openAccount_44 ?_
          refine lv_iload_n hx hb dX5_openAccount_47 rfl (lv_at hl 1 rfl) ?_
          refine lv_aload_n hx hb dX5_openAccount_48 rfl (lv_at hl 0 rfl) ?_
          refine x_get hx hb (C := RX5) (T := TX5) (N := 13) (ci := 5) hts iX5 hown hK hP 0 rfl rfl 4 (by decide) wd2 rfl (.int day) rfl dX5_openAccount_49 ?_
          obtain ⟨Asz_7, Anu_8, Aba_9, Amo_10, Aco_11, h_12, hf⟩ := bd5_el hf
          refine x_callVv (As := [.int p1, .int day]) (rest := []) ⟨hx, hb, hml, hown, hts⟩ (mX0_insert l D cy a1 a2 a3 a4 a5 Asz Anu Aba Amo Aco p1 day Asz_7 Anu_8 Aba_9 Amo_10 Aco_11 h_12) (cwV 2 hts (gcV_X0_insert hbg wm_6_18) rfl rfl rfl kdX0_insert ⟨Nat.le_of_ble_eq_true rfl, Nat.le_of_ble_eq_true rfl⟩) (w1 := [(a0, .inr (5, [.ref a1, .ref a6, .ref a8, .ref a10, .int day, .int lim, .int low, .int hig, .int thr, .long off, .long cre, .long rcp, .long pay]))]) (w2 := wX4 cy a6 a7 Hsz Hla Hce ++ (wX4 cy a8 a9 Bsz Bla Bce ++ (wX6 cy a10 a11 Tma Tlc Ttc))) (w' := wX5 cy a0 a1 a2 a3 a4 a5 a6 a7 a8 a9 a10 a11 Asz_7 Anu_8 Aba_9 Amo_10 Aco_11 Hsz Hla Hce Bsz Bla Bce Tma Tlc Ttc day lim low hig thr off cre rcp pay) rfl rfl hP hK hD hN hS hA (q0 := 0) rfl rfl rfl rfl hl rfl (Nat.le_of_ble_eq_true rfl) dX5_openAccount_52 ⟨Nat.zero_le _, Nat.zero_le _⟩ (fun H locs hP hD hS => ?_)
          refine lv_aload_n hx hb dX5_openAccount_55 rfl (lv_at hl 0 rfl) ?_
          refine x_get hx hb (C := RX5) (T := TX5) (N := 13) (ci := 5) hts iX5 hown hK hP 0 rfl rfl 0 (by decide) wd0 rfl (.ref a1) rfl dX5_openAccount_56 ?_
          refine x_get hx hb (C := RX0) (T := TX0) (N := 5) (ci := 0) hts iX0 hown hK hP 1 rfl rfl 0 (by decide) wd1 rfl (.int Asz_7) rfl dX5_openAccount_59 ?_
          have hf := Option.some.inj hf
          cases hf
          exact x_iret hx hb hr hlocks hK hP hD hS dX5_openAccount_62
        · have hf := x_f c_6 hf
          refine lv_bipush (v := (-4)) hx hb dX5_openAccount_40 (by decide) ?_
          have hf := Option.some.inj hf
          cases hf
          exact x_iret hx hb hr hlocks hK hP hD hS dX5_openAccount_42
      · have hf := x_f c_5 hf
        refine lv_bipush (v := (-3)) hx hb dX5_openAccount_25 (by decide) ?_
        have hf := Option.some.inj hf
        cases hf
        exact x_iret hx hb hr hlocks hK hP hD hS dX5_openAccount_27
    · have hf := x_f c_2 hf
      refine lv_bipush (v := (-2)) hx hb dX5_openAccount_11 (by decide) ?_
      have hf := Option.some.inj hf
      cases hf
      exact x_iret hx hb hr hlocks hK hP hD hS dX5_openAccount_13
theorem kdX5_closeAccount : yX5_closeAccount.cls = RX5 ∧ yX5_closeAccount.cls ≠ "java/lang/invoke/MethodHandle" ∧ yX5_closeAccount.cls ≠ "java/lang/invoke/VarHandle" ∧ (parseMethodDescriptor yX5_closeAccount.desc).map (fun d => d.parameters.length) = some 1 := by decide +kernel
def rmX5_closeAccount : Room := { frames := 3, cells := 0, slots := 0, locals := 65 }
set_option maxHeartbeats 4000000 in
set_option maxRecDepth 100000 in
theorem mX5_closeAccount (l : Launch) (D : va_G) (cy : Nat → ClassId) (a0 a1 a2 a3 a4 a5 a6 a7 a8 a9 a10 a11 : Nat) (Asz : Int32) (Anu : Nat → Int32) (Aba : Nat → Int32) (Amo : Nat → Int32) (Aco : Nat → Int64) (Hsz : Int32) (Hla : Int32) (Hce : Nat → Int32) (Bsz : Int32) (Bla : Int32) (Bce : Nat → Int32) (Tma : Int32) (Tlc : Int32) (Ttc : Nat → Int32) (day : Int32) (lim : Int32) (low : Int32) (hig : Int32) (thr : Int32) (off : Int64) (cre : Int64) (rcp : Int64) (pay : Int64) (p1 : Int32) (r : Int32) (Asz' : Int32) (Anu' : Nat → Int32) (Aba' : Nat → Int32) (Amo' : Nat → Int32) (Aco' : Nat → Int64) (hf : fX5_closeAccount Asz Anu Aba Amo Aco Bsz Bce p1 = some (r, Asz', Anu', Aba', Amo', Aco')) : xMi l D cy yX5_closeAccount aX5_closeAccount rmX5_closeAccount ([.ref a0, .int p1] : List Value) (wX5 cy a0 a1 a2 a3 a4 a5 a6 a7 a8 a9 a10 a11 Asz Anu Aba Amo Aco Hsz Hla Hce Bsz Bla Bce Tma Tlc Ttc day lim low hig thr off cre rcp pay) (wX5 cy a0 a1 a2 a3 a4 a5 a6 a7 a8 a9 a10 a11 Asz' Anu' Aba' Amo' Aco' Hsz Hla Hce Bsz Bla Bce Tma Tlc Ttc day lim low hig thr off cre rcp pay) r := by
  intro hz
  refine x_start (Qc := xQi D cy _ r) (cc := cX5_closeAccount) (maxL := 3) (ret := (some .int)) (by decide) rfl (Nat.le_of_ble_eq_true rfl) (lv := [(0, .ref a0), (1, .int p1)]) rfl ?_
  intro p e s m below meth c ls A hx hb hr hml hown hts hlocks hK hP hD hS hA hN hl
  have hown : s.vm.findClass RX5 = some m.cls := hown
  have hbg : ∀ w ∈ wsL_law, w ∈ aX5_closeAccount := fun w h => List.mem_cons_of_mem _ h
  have wd0 : (Cond.fieldLink RX5 12 "ClientMoneyBook$State" "accounts" "LClientMoneyBook$Accounts;").before ([.ref a0, .int p1] : List Value).toArray s = true := hts _ (List.mem_cons_of_mem _ wm_1_20)
  have wd1 : (Cond.fieldLink RX5 25 "ClientMoneyBook$State" "bills" "LClientMoneyBook$Rows;").before ([.ref a0, .int p1] : List Value).toArray s = true := hts _ (List.mem_cons_of_mem _ wm_2_1)
  have wd2 : (Cond.fieldLink RX5 80 "ClientMoneyBook$Accounts" "size" "I").before ([.ref a0, .int p1] : List Value).toArray s = true := hts _ (List.mem_cons_of_mem _ wm_6_13)
  have iX0 : ∀ w ∈ u_ws RX0 TX0 5, w ∈ aX5_closeAccount := fun w h => List.mem_cons_of_mem _ (inlX0 w h)
  have iX5 : ∀ w ∈ u_ws RX5 TX5 13, w ∈ aX5_closeAccount := fun w h => List.mem_cons_of_mem _ (inlX5 w h)
  unfold fX5_closeAccount at hf
  refine lv_aload_n hx hb dX5_closeAccount_0 rfl (lv_at hl 0 rfl) ?_
  refine x_get hx hb (C := RX5) (T := TX5) (N := 13) (ci := 5) hts iX5 hown hK hP 0 rfl rfl 0 (by decide) wd0 rfl (.ref a1) rfl dX5_closeAccount_1 ?_
  refine lv_iload_n hx hb dX5_closeAccount_4 rfl (lv_at hl 1 rfl) ?_
  obtain ⟨r_1, h_2, hf⟩ := bd1_el hf
  refine x_callVi (As := [.int p1]) (rest := []) ⟨hx, hb, hml, hown, hts⟩ (mX0_find l D cy a1 a2 a3 a4 a5 Asz Anu Aba Amo Aco p1 r_1 h_2) (cwV 1 hts (gcV_X0_find hbg wm_6_14) rfl rfl rfl kdX0_find ⟨Nat.le_of_ble_eq_true rfl, Nat.le_of_ble_eq_true rfl⟩) (w1 := [(a0, .inr (5, [.ref a1, .ref a6, .ref a8, .ref a10, .int day, .int lim, .int low, .int hig, .int thr, .long off, .long cre, .long rcp, .long pay]))]) (w2 := wX4 cy a6 a7 Hsz Hla Hce ++ (wX4 cy a8 a9 Bsz Bla Bce ++ (wX6 cy a10 a11 Tma Tlc Ttc))) (w' := wX5 cy a0 a1 a2 a3 a4 a5 a6 a7 a8 a9 a10 a11 Asz Anu Aba Amo Aco Hsz Hla Hce Bsz Bla Bce Tma Tlc Ttc day lim low hig thr off cre rcp pay) rfl rfl hP hK hD hN hS hA (q0 := 0) rfl rfl rfl rfl hl rfl (Nat.le_of_ble_eq_true rfl) dX5_closeAccount_5 ⟨Nat.zero_le _, Nat.zero_le _⟩ (fun H locs hP hD hS => ?_)
  refine lv_istore_n (lv' := [(2, .int r_1), (0, .ref a0), (1, .int p1)]) hx hb dX5_closeAccount_8 rfl hl (by decide) rfl (fun ls hl => ?_)
  refine lv_iload_n hx hb dX5_closeAccount_9 rfl (lv_at hl 0 rfl) ?_
  refine lv_if_ge (tgt := 15) hx hb dX5_closeAccount_10 (by decide) (fun c_3 => ?_) (fun c_3 => ?_)
  · have hf := x_t c_3 hf
    refine lv_aload_n hx hb dX5_closeAccount_15 rfl (lv_at hl 1 rfl) ?_
    refine x_get hx hb (C := RX5) (T := TX5) (N := 13) (ci := 5) hts iX5 hown hK hP 0 rfl rfl 0 (by decide) wd0 rfl (.ref a1) rfl dX5_closeAccount_16 ?_
    refine lv_iload_n hx hb dX5_closeAccount_19 rfl (lv_at hl 0 rfl) ?_
    obtain ⟨r_4, h_5, hf⟩ := bd1_el hf
    refine x_callVi (As := [.int r_1]) (rest := []) ⟨hx, hb, hml, hown, hts⟩ (mX0_balanceAt l D cy a1 a2 a3 a4 a5 Asz Anu Aba Amo Aco r_1 r_4 h_5) (cwV 1 hts (gcV_X0_balanceAt hbg wm_8_13) rfl rfl rfl kdX0_balanceAt ⟨Nat.le_of_ble_eq_true rfl, Nat.le_of_ble_eq_true rfl⟩) (w1 := [(a0, .inr (5, [.ref a1, .ref a6, .ref a8, .ref a10, .int day, .int lim, .int low, .int hig, .int thr, .long off, .long cre, .long rcp, .long pay]))]) (w2 := wX4 cy a6 a7 Hsz Hla Hce ++ (wX4 cy a8 a9 Bsz Bla Bce ++ (wX6 cy a10 a11 Tma Tlc Ttc))) (w' := wX5 cy a0 a1 a2 a3 a4 a5 a6 a7 a8 a9 a10 a11 Asz Anu Aba Amo Aco Hsz Hla Hce Bsz Bla Bce Tma Tlc Ttc day lim low hig thr off cre rcp pay) rfl rfl hP hK hD hN hS hA (q0 := 0) rfl rfl rfl rfl hl rfl (Nat.le_of_ble_eq_true rfl) dX5_closeAccount_20 ⟨Nat.zero_le _, Nat.zero_le _⟩ (fun H locs hP hD hS => ?_)
    refine lv_if_ne (tgt := 37) hx hb dX5_closeAccount_23 (by decide) (fun c_6 => ?_) (fun c_6 => ?_)
    · have hf := x_f c_6 hf
      refine lv_bipush (v := (-3)) hx hb dX5_closeAccount_37 (by decide) ?_
      have hf := Option.some.inj hf
      cases hf
      exact x_iret hx hb hr hlocks hK hP hD hS dX5_closeAccount_39
    · have hf := x_t c_6 hf
      refine lv_aload_n hx hb dX5_closeAccount_26 rfl (lv_at hl 1 rfl) ?_
      refine x_get hx hb (C := RX5) (T := TX5) (N := 13) (ci := 5) hts iX5 hown hK hP 0 rfl rfl 2 (by decide) wd1 rfl (.ref a8) rfl dX5_closeAccount_27 ?_
      refine lv_iload_n hx hb dX5_closeAccount_30 rfl (lv_at hl 2 rfl) ?_
      obtain ⟨r_7, h_8, hf⟩ := bd1_el hf
      refine x_callVi (As := [.int p1]) (rest := []) ⟨hx, hb, hml, hown, hts⟩ (mX4_countOf l D cy a8 a9 Bsz Bla Bce p1 r_7 h_8) (cwV 1 hts (gcV_X4_countOf hbg wm_19_6) rfl rfl rfl kdX4_countOf ⟨Nat.le_of_ble_eq_true rfl, Nat.le_of_ble_eq_true rfl⟩) (w1 := [(a0, .inr (5, [.ref a1, .ref a6, .ref a8, .ref a10, .int day, .int lim, .int low, .int hig, .int thr, .long off, .long cre, .long rcp, .long pay]))] ++ (wX0 cy a1 a2 a3 a4 a5 Asz Anu Aba Amo Aco ++ (wX4 cy a6 a7 Hsz Hla Hce))) (w2 := wX6 cy a10 a11 Tma Tlc Ttc) (w' := wX5 cy a0 a1 a2 a3 a4 a5 a6 a7 a8 a9 a10 a11 Asz Anu Aba Amo Aco Hsz Hla Hce Bsz Bla Bce Tma Tlc Ttc day lim low hig thr off cre rcp pay) rfl rfl hP hK hD hN hS hA (q0 := 0) rfl rfl rfl rfl hl rfl (Nat.le_of_ble_eq_true rfl) dX5_closeAccount_31 ⟨Nat.zero_le _, Nat.zero_le _⟩ (fun H locs hP hD hS => ?_)
      refine lv_if_le (tgt := 40) hx hb dX5_closeAccount_34 (by decide) (fun c_9 => ?_) (fun c_9 => ?_)
      · have hf := x_t c_9 hf
        refine lv_aload_n hx hb dX5_closeAccount_40 rfl (lv_at hl 1 rfl) ?_
        refine x_get hx hb (C := RX5) (T := TX5) (N := 13) (ci := 5) hts iX5 hown hK hP 0 rfl rfl 0 (by decide) wd0 rfl (.ref a1) rfl dX5_closeAccount_41 ?_
        refine lv_iload_n hx hb dX5_closeAccount_44 rfl (lv_at hl 0 rfl) ?_
        obtain ⟨Asz_10, Anu_11, Aba_12, Amo_13, Aco_14, h_15, hf⟩ := bd5_el hf
        refine x_callVv (As := [.int r_1]) (rest := []) ⟨hx, hb, hml, hown, hts⟩ (mX0_remove l D cy a1 a2 a3 a4 a5 Asz Anu Aba Amo Aco r_1 Asz_10 Anu_11 Aba_12 Amo_13 Aco_14 h_15) (cwV 1 hts (gcV_X0_remove hbg wm_19_10) rfl rfl rfl kdX0_remove ⟨Nat.le_of_ble_eq_true rfl, Nat.le_of_ble_eq_true rfl⟩) (w1 := [(a0, .inr (5, [.ref a1, .ref a6, .ref a8, .ref a10, .int day, .int lim, .int low, .int hig, .int thr, .long off, .long cre, .long rcp, .long pay]))]) (w2 := wX4 cy a6 a7 Hsz Hla Hce ++ (wX4 cy a8 a9 Bsz Bla Bce ++ (wX6 cy a10 a11 Tma Tlc Ttc))) (w' := wX5 cy a0 a1 a2 a3 a4 a5 a6 a7 a8 a9 a10 a11 Asz_10 Anu_11 Aba_12 Amo_13 Aco_14 Hsz Hla Hce Bsz Bla Bce Tma Tlc Ttc day lim low hig thr off cre rcp pay) rfl rfl hP hK hD hN hS hA (q0 := 0) rfl rfl rfl rfl hl rfl (Nat.le_of_ble_eq_true rfl) dX5_closeAccount_45 ⟨Nat.zero_le _, Nat.zero_le _⟩ (fun H locs hP hD hS => ?_)
        refine lv_aload_n hx hb dX5_closeAccount_48 rfl (lv_at hl 1 rfl) ?_
        refine x_get hx hb (C := RX5) (T := TX5) (N := 13) (ci := 5) hts iX5 hown hK hP 0 rfl rfl 0 (by decide) wd0 rfl (.ref a1) rfl dX5_closeAccount_49 ?_
        refine x_get hx hb (C := RX0) (T := TX0) (N := 5) (ci := 0) hts iX0 hown hK hP 1 rfl rfl 0 (by decide) wd2 rfl (.int Asz_10) rfl dX5_closeAccount_52 ?_
        have hf := Option.some.inj hf
        cases hf
        exact x_iret hx hb hr hlocks hK hP hD hS dX5_closeAccount_55
      · have hf := x_f c_9 hf
        refine lv_bipush (v := (-3)) hx hb dX5_closeAccount_37 (by decide) ?_
        have hf := Option.some.inj hf
        cases hf
        exact x_iret hx hb hr hlocks hK hP hD hS dX5_closeAccount_39
  · have hf := x_f c_3 hf
    refine lv_iconst (v := (-1)) hx hb dX5_closeAccount_13 (by decide) ?_
    have hf := Option.some.inj hf
    cases hf
    exact x_iret hx hb hr hlocks hK hP hD hS dX5_closeAccount_14
theorem kdX5_enter : yX5_enter.cls = RX5 ∧ yX5_enter.cls ≠ "java/lang/invoke/MethodHandle" ∧ yX5_enter.cls ≠ "java/lang/invoke/VarHandle" ∧ (parseMethodDescriptor yX5_enter.desc).map (fun d => d.parameters.length) = some 4 := by decide +kernel
def rmX5_enter : Room := { frames := 3, cells := 0, slots := 0, locals := 72 }
set_option maxHeartbeats 4000000 in
set_option maxRecDepth 100000 in
theorem mX5_enter (l : Launch) (D : va_G) (cy : Nat → ClassId) (a0 a1 a2 a3 a4 a5 a6 a7 a8 a9 a10 a11 : Nat) (Asz : Int32) (Anu : Nat → Int32) (Aba : Nat → Int32) (Amo : Nat → Int32) (Aco : Nat → Int64) (Hsz : Int32) (Hla : Int32) (Hce : Nat → Int32) (Bsz : Int32) (Bla : Int32) (Bce : Nat → Int32) (Tma : Int32) (Tlc : Int32) (Ttc : Nat → Int32) (day : Int32) (lim : Int32) (low : Int32) (hig : Int32) (thr : Int32) (off : Int64) (cre : Int64) (rcp : Int64) (pay : Int64) (p1 : Int32) (p2 : Int32) (p3 : Int32) (p4 : Int32) (Amo' : Nat → Int32) (Tma' : Int32) (Tlc' : Int32) (Ttc' : Nat → Int32) (hf : fX5_enter Asz Anu Amo Tma Tlc Ttc day p1 p2 p3 p4 = some (Amo', Tma', Tlc', Ttc')) : xMv l D cy yX5_enter aX5_enter rmX5_enter ([.ref a0, .int p1, .int p2, .int p3, .int p4] : List Value) (wX5 cy a0 a1 a2 a3 a4 a5 a6 a7 a8 a9 a10 a11 Asz Anu Aba Amo Aco Hsz Hla Hce Bsz Bla Bce Tma Tlc Ttc day lim low hig thr off cre rcp pay) (wX5 cy a0 a1 a2 a3 a4 a5 a6 a7 a8 a9 a10 a11 Asz Anu Aba Amo' Aco Hsz Hla Hce Bsz Bla Bce Tma' Tlc' Ttc' day lim low hig thr off cre rcp pay) := by
  intro hz
  refine x_start (Qc := xQv D cy _) (cc := cX5_enter) (maxL := 5) (ret := none) (by decide) rfl (Nat.le_of_ble_eq_true rfl) (lv := [(0, .ref a0), (1, .int p1), (2, .int p2), (3, .int p3), (4, .int p4)]) rfl ?_
  intro p e s m below meth c ls A hx hb hr hml hown hts hlocks hK hP hD hS hA hN hl
  have hown : s.vm.findClass RX5 = some m.cls := hown
  have hbg : ∀ w ∈ wsL_law, w ∈ aX5_enter := fun w h => List.mem_cons_of_mem _ h
  have wd0 : (Cond.fieldLink RX5 31 "ClientMoneyBook$State" "trail" "LClientMoneyBook$Trail;").before ([.ref a0, .int p1, .int p2, .int p3, .int p4] : List Value).toArray s = true := hts _ (List.mem_cons_of_mem _ wm_2_5)
  have wd1 : (Cond.fieldLink RX5 35 "ClientMoneyBook$State" "day" "I").before ([.ref a0, .int p1, .int p2, .int p3, .int p4] : List Value).toArray s = true := hts _ (List.mem_cons_of_mem _ wm_2_6)
  have wd2 : (Cond.fieldLink RX5 12 "ClientMoneyBook$State" "accounts" "LClientMoneyBook$Accounts;").before ([.ref a0, .int p1, .int p2, .int p3, .int p4] : List Value).toArray s = true := hts _ (List.mem_cons_of_mem _ wm_1_20)
  have iX5 : ∀ w ∈ u_ws RX5 TX5 13, w ∈ aX5_enter := fun w h => List.mem_cons_of_mem _ (inlX5 w h)
  unfold fX5_enter at hf
  refine lv_aload_n hx hb dX5_enter_0 rfl (lv_at hl 0 rfl) ?_
  refine x_get hx hb (C := RX5) (T := TX5) (N := 13) (ci := 5) hts iX5 hown hK hP 0 rfl rfl 3 (by decide) wd0 rfl (.ref a10) rfl dX5_enter_1 ?_
  refine lv_aload_n hx hb dX5_enter_4 rfl (lv_at hl 0 rfl) ?_
  refine x_get hx hb (C := RX5) (T := TX5) (N := 13) (ci := 5) hts iX5 hown hK hP 0 rfl rfl 4 (by decide) wd1 rfl (.int day) rfl dX5_enter_5 ?_
  refine lv_iload_n hx hb dX5_enter_8 rfl (lv_at hl 1 rfl) ?_
  refine lv_iload_n hx hb dX5_enter_9 rfl (lv_at hl 2 rfl) ?_
  refine lv_iload_n hx hb dX5_enter_10 rfl (lv_at hl 3 rfl) ?_
  refine lv_iload hx hb dX5_enter_11 (lv_at hl 4 rfl) ?_
  obtain ⟨Tma_1, Tlc_2, Ttc_3, h_4, hf⟩ := bd3_el hf
  refine x_callVv (As := [.int day, .int p1, .int p2, .int p3, .int p4]) (rest := []) ⟨hx, hb, hml, hown, hts⟩ (mX6_append l D cy a10 a11 Tma Tlc Ttc day p1 p2 p3 p4 Tma_1 Tlc_2 Ttc_3 h_4) (cwV 5 hts (gcV_X6_append hbg wm_9_1) rfl rfl rfl kdX6_append ⟨Nat.le_of_ble_eq_true rfl, Nat.le_of_ble_eq_true rfl⟩) (w1 := [(a0, .inr (5, [.ref a1, .ref a6, .ref a8, .ref a10, .int day, .int lim, .int low, .int hig, .int thr, .long off, .long cre, .long rcp, .long pay]))] ++ (wX0 cy a1 a2 a3 a4 a5 Asz Anu Aba Amo Aco ++ (wX4 cy a6 a7 Hsz Hla Hce ++ (wX4 cy a8 a9 Bsz Bla Bce)))) (w2 := []) (w' := wX5 cy a0 a1 a2 a3 a4 a5 a6 a7 a8 a9 a10 a11 Asz Anu Aba Amo Aco Hsz Hla Hce Bsz Bla Bce Tma_1 Tlc_2 Ttc_3 day lim low hig thr off cre rcp pay) (x_end rfl) (x_end rfl) hP hK hD hN hS hA (q0 := 0) rfl rfl rfl rfl hl rfl (Nat.le_of_ble_eq_true rfl) dX5_enter_13 ⟨Nat.zero_le _, Nat.zero_le _⟩ (fun H locs hP hD hS => ?_)
  refine lv_aload_n hx hb dX5_enter_16 rfl (lv_at hl 0 rfl) ?_
  refine x_get hx hb (C := RX5) (T := TX5) (N := 13) (ci := 5) hts iX5 hown hK hP 0 rfl rfl 0 (by decide) wd2 rfl (.ref a1) rfl dX5_enter_17 ?_
  refine lv_aload_n hx hb dX5_enter_20 rfl (lv_at hl 0 rfl) ?_
  refine x_get hx hb (C := RX5) (T := TX5) (N := 13) (ci := 5) hts iX5 hown hK hP 0 rfl rfl 0 (by decide) wd2 rfl (.ref a1) rfl dX5_enter_21 ?_
  refine lv_iload_n hx hb dX5_enter_24 rfl (lv_at hl 2 rfl) ?_
  obtain ⟨r_5, h_6, hf⟩ := bd1_el hf
  refine x_callVi (As := [.int p2]) (rest := [.ref a1]) ⟨hx, hb, hml, hown, hts⟩ (mX0_find l D cy a1 a2 a3 a4 a5 Asz Anu Aba Amo Aco p2 r_5 h_6) (cwV 1 hts (gcV_X0_find hbg wm_6_14) rfl rfl rfl kdX0_find ⟨Nat.le_of_ble_eq_true rfl, Nat.le_of_ble_eq_true rfl⟩) (w1 := [(a0, .inr (5, [.ref a1, .ref a6, .ref a8, .ref a10, .int day, .int lim, .int low, .int hig, .int thr, .long off, .long cre, .long rcp, .long pay]))]) (w2 := wX4 cy a6 a7 Hsz Hla Hce ++ (wX4 cy a8 a9 Bsz Bla Bce ++ (wX6 cy a10 a11 Tma_1 Tlc_2 Ttc_3))) (w' := wX5 cy a0 a1 a2 a3 a4 a5 a6 a7 a8 a9 a10 a11 Asz Anu Aba Amo Aco Hsz Hla Hce Bsz Bla Bce Tma_1 Tlc_2 Ttc_3 day lim low hig thr off cre rcp pay) rfl rfl hP hK hD hN hS hA (q0 := 0) rfl rfl rfl rfl hl rfl (Nat.le_of_ble_eq_true rfl) dX5_enter_25 ⟨Nat.zero_le _, Nat.zero_le _⟩ (fun H locs hP hD hS => ?_)
  refine lv_aload_n hx hb dX5_enter_28 rfl (lv_at hl 0 rfl) ?_
  refine x_get hx hb (C := RX5) (T := TX5) (N := 13) (ci := 5) hts iX5 hown hK hP 0 rfl rfl 4 (by decide) wd1 rfl (.int day) rfl dX5_enter_29 ?_
  obtain ⟨Amo_7, h_8, hf⟩ := bd1_el hf
  refine x_callVv (As := [.int r_5, .int day]) (rest := []) ⟨hx, hb, hml, hown, hts⟩ (mX0_move l D cy a1 a2 a3 a4 a5 Asz Anu Aba Amo Aco r_5 day Amo_7 h_8) (cwV 2 hts (gcV_X0_move hbg wm_9_18) rfl rfl rfl kdX0_move ⟨Nat.le_of_ble_eq_true rfl, Nat.le_of_ble_eq_true rfl⟩) (w1 := [(a0, .inr (5, [.ref a1, .ref a6, .ref a8, .ref a10, .int day, .int lim, .int low, .int hig, .int thr, .long off, .long cre, .long rcp, .long pay]))]) (w2 := wX4 cy a6 a7 Hsz Hla Hce ++ (wX4 cy a8 a9 Bsz Bla Bce ++ (wX6 cy a10 a11 Tma_1 Tlc_2 Ttc_3))) (w' := wX5 cy a0 a1 a2 a3 a4 a5 a6 a7 a8 a9 a10 a11 Asz Anu Aba Amo_7 Aco Hsz Hla Hce Bsz Bla Bce Tma_1 Tlc_2 Ttc_3 day lim low hig thr off cre rcp pay) rfl rfl hP hK hD hN hS hA (q0 := 0) rfl rfl rfl rfl hl rfl (Nat.le_of_ble_eq_true rfl) dX5_enter_32 ⟨Nat.zero_le _, Nat.zero_le _⟩ (fun H locs hP hD hS => ?_)
  refine lv_aload_n hx hb dX5_enter_35 rfl (lv_at hl 0 rfl) ?_
  refine x_get hx hb (C := RX5) (T := TX5) (N := 13) (ci := 5) hts iX5 hown hK hP 0 rfl rfl 0 (by decide) wd2 rfl (.ref a1) rfl dX5_enter_36 ?_
  refine lv_aload_n hx hb dX5_enter_39 rfl (lv_at hl 0 rfl) ?_
  refine x_get hx hb (C := RX5) (T := TX5) (N := 13) (ci := 5) hts iX5 hown hK hP 0 rfl rfl 0 (by decide) wd2 rfl (.ref a1) rfl dX5_enter_40 ?_
  refine lv_iload_n hx hb dX5_enter_43 rfl (lv_at hl 3 rfl) ?_
  obtain ⟨r_9, h_10, hf⟩ := bd1_el hf
  refine x_callVi (As := [.int p3]) (rest := [.ref a1]) ⟨hx, hb, hml, hown, hts⟩ (mX0_find l D cy a1 a2 a3 a4 a5 Asz Anu Aba Amo_7 Aco p3 r_9 h_10) (cwV 1 hts (gcV_X0_find hbg wm_6_14) rfl rfl rfl kdX0_find ⟨Nat.le_of_ble_eq_true rfl, Nat.le_of_ble_eq_true rfl⟩) (w1 := [(a0, .inr (5, [.ref a1, .ref a6, .ref a8, .ref a10, .int day, .int lim, .int low, .int hig, .int thr, .long off, .long cre, .long rcp, .long pay]))]) (w2 := wX4 cy a6 a7 Hsz Hla Hce ++ (wX4 cy a8 a9 Bsz Bla Bce ++ (wX6 cy a10 a11 Tma_1 Tlc_2 Ttc_3))) (w' := wX5 cy a0 a1 a2 a3 a4 a5 a6 a7 a8 a9 a10 a11 Asz Anu Aba Amo_7 Aco Hsz Hla Hce Bsz Bla Bce Tma_1 Tlc_2 Ttc_3 day lim low hig thr off cre rcp pay) rfl rfl hP hK hD hN hS hA (q0 := 0) rfl rfl rfl rfl hl rfl (Nat.le_of_ble_eq_true rfl) dX5_enter_44 ⟨Nat.zero_le _, Nat.zero_le _⟩ (fun H locs hP hD hS => ?_)
  refine lv_aload_n hx hb dX5_enter_47 rfl (lv_at hl 0 rfl) ?_
  refine x_get hx hb (C := RX5) (T := TX5) (N := 13) (ci := 5) hts iX5 hown hK hP 0 rfl rfl 4 (by decide) wd1 rfl (.int day) rfl dX5_enter_48 ?_
  obtain ⟨Amo_11, h_12, hf⟩ := bd1_el hf
  refine x_callVv (As := [.int r_9, .int day]) (rest := []) ⟨hx, hb, hml, hown, hts⟩ (mX0_move l D cy a1 a2 a3 a4 a5 Asz Anu Aba Amo_7 Aco r_9 day Amo_11 h_12) (cwV 2 hts (gcV_X0_move hbg wm_9_18) rfl rfl rfl kdX0_move ⟨Nat.le_of_ble_eq_true rfl, Nat.le_of_ble_eq_true rfl⟩) (w1 := [(a0, .inr (5, [.ref a1, .ref a6, .ref a8, .ref a10, .int day, .int lim, .int low, .int hig, .int thr, .long off, .long cre, .long rcp, .long pay]))]) (w2 := wX4 cy a6 a7 Hsz Hla Hce ++ (wX4 cy a8 a9 Bsz Bla Bce ++ (wX6 cy a10 a11 Tma_1 Tlc_2 Ttc_3))) (w' := wX5 cy a0 a1 a2 a3 a4 a5 a6 a7 a8 a9 a10 a11 Asz Anu Aba Amo_11 Aco Hsz Hla Hce Bsz Bla Bce Tma_1 Tlc_2 Ttc_3 day lim low hig thr off cre rcp pay) rfl rfl hP hK hD hN hS hA (q0 := 0) rfl rfl rfl rfl hl rfl (Nat.le_of_ble_eq_true rfl) dX5_enter_51 ⟨Nat.zero_le _, Nat.zero_le _⟩ (fun H locs hP hD hS => ?_)
  have hf := Option.some.inj hf
  cases hf
  exact x_vret hx hb hr hlocks hK hP hD hS dX5_enter_54
theorem kdX5_takeReceipt : yX5_takeReceipt.cls = RX5 ∧ yX5_takeReceipt.cls ≠ "java/lang/invoke/MethodHandle" ∧ yX5_takeReceipt.cls ≠ "java/lang/invoke/VarHandle" ∧ (parseMethodDescriptor yX5_takeReceipt.desc).map (fun d => d.parameters.length) = some 2 := by decide +kernel
def rmX5_takeReceipt : Room := { frames := 4, cells := 0, slots := 0, locals := 96 }
set_option maxHeartbeats 4000000 in
set_option maxRecDepth 100000 in
theorem mX5_takeReceipt (l : Launch) (D : va_G) (cy : Nat → ClassId) (a0 a1 a2 a3 a4 a5 a6 a7 a8 a9 a10 a11 : Nat) (Asz : Int32) (Anu : Nat → Int32) (Aba : Nat → Int32) (Amo : Nat → Int32) (Aco : Nat → Int64) (Hsz : Int32) (Hla : Int32) (Hce : Nat → Int32) (Bsz : Int32) (Bla : Int32) (Bce : Nat → Int32) (Tma : Int32) (Tlc : Int32) (Ttc : Nat → Int32) (day : Int32) (lim : Int32) (low : Int32) (hig : Int32) (thr : Int32) (off : Int64) (cre : Int64) (rcp : Int64) (pay : Int64) (p1 : Int32) (p2 : Int32) (r : Int32) (Aba' : Nat → Int32) (Amo' : Nat → Int32) (Tma' : Int32) (Tlc' : Int32) (Ttc' : Nat → Int32) (rcp' : Int64) (hf : fX5_takeReceipt Asz Anu Aba Amo Tma Tlc Ttc day rcp p1 p2 = some (r, Aba', Amo', Tma', Tlc', Ttc', rcp')) : xMi l D cy yX5_takeReceipt aX5_takeReceipt rmX5_takeReceipt ([.ref a0, .int p1, .int p2] : List Value) (wX5 cy a0 a1 a2 a3 a4 a5 a6 a7 a8 a9 a10 a11 Asz Anu Aba Amo Aco Hsz Hla Hce Bsz Bla Bce Tma Tlc Ttc day lim low hig thr off cre rcp pay) (wX5 cy a0 a1 a2 a3 a4 a5 a6 a7 a8 a9 a10 a11 Asz Anu Aba' Amo' Aco Hsz Hla Hce Bsz Bla Bce Tma' Tlc' Ttc' day lim low hig thr off cre rcp' pay) r := by
  intro hz
  refine x_start (Qc := xQi D cy _ r) (cc := cX5_takeReceipt) (maxL := 4) (ret := (some .int)) (by decide) rfl (Nat.le_of_ble_eq_true rfl) (lv := [(0, .ref a0), (1, .int p1), (2, .int p2)]) rfl ?_
  intro p e s m below meth c ls A hx hb hr hml hown hts hlocks hK hP hD hS hA hN hl
  have hown : s.vm.findClass RX5 = some m.cls := hown
  have hbg : ∀ w ∈ wsL_law, w ∈ aX5_takeReceipt := fun w h => List.mem_cons_of_mem _ h
  have wd0 : (Cond.fieldLink RX5 12 "ClientMoneyBook$State" "accounts" "LClientMoneyBook$Accounts;").before ([.ref a0, .int p1, .int p2] : List Value).toArray s = true := hts _ (List.mem_cons_of_mem _ wm_1_20)
  have wd1 : (Cond.initialized RX7).before ([.ref a0, .int p1, .int p2] : List Value).toArray s = true := hts _ (List.mem_cons_of_mem _ wm_0_2)
  have wd2 : (Cond.static yX7_isAmount).before ([.ref a0, .int p1, .int p2] : List Value).toArray s = true := hts _ (List.mem_cons_of_mem _ wm_8_10)
  have wd3 : (Cond.constant RX5 75 (1000000000)).before ([.ref a0, .int p1, .int p2] : List Value).toArray s = true := hts _ (List.mem_cons_of_mem _ wm_8_9)
  have wd4 : (Cond.fieldLink RX5 59 "ClientMoneyBook$State" "receipts" "J").before ([.ref a0, .int p1, .int p2] : List Value).toArray s = true := hts _ (List.mem_cons_of_mem _ wm_2_14)
  have iX5 : ∀ w ∈ u_ws RX5 TX5 13, w ∈ aX5_takeReceipt := fun w h => List.mem_cons_of_mem _ (inlX5 w h)
  unfold fX5_takeReceipt at hf
  refine lv_aload_n hx hb dX5_takeReceipt_0 rfl (lv_at hl 0 rfl) ?_
  refine x_get hx hb (C := RX5) (T := TX5) (N := 13) (ci := 5) hts iX5 hown hK hP 0 rfl rfl 0 (by decide) wd0 rfl (.ref a1) rfl dX5_takeReceipt_1 ?_
  refine lv_iload_n hx hb dX5_takeReceipt_4 rfl (lv_at hl 1 rfl) ?_
  obtain ⟨r_1, h_2, hf⟩ := bd1_el hf
  refine x_callVi (As := [.int p1]) (rest := []) ⟨hx, hb, hml, hown, hts⟩ (mX0_find l D cy a1 a2 a3 a4 a5 Asz Anu Aba Amo Aco p1 r_1 h_2) (cwV 1 hts (gcV_X0_find hbg wm_6_14) rfl rfl rfl kdX0_find ⟨Nat.le_of_ble_eq_true rfl, Nat.le_of_ble_eq_true rfl⟩) (w1 := [(a0, .inr (5, [.ref a1, .ref a6, .ref a8, .ref a10, .int day, .int lim, .int low, .int hig, .int thr, .long off, .long cre, .long rcp, .long pay]))]) (w2 := wX4 cy a6 a7 Hsz Hla Hce ++ (wX4 cy a8 a9 Bsz Bla Bce ++ (wX6 cy a10 a11 Tma Tlc Ttc))) (w' := wX5 cy a0 a1 a2 a3 a4 a5 a6 a7 a8 a9 a10 a11 Asz Anu Aba Amo Aco Hsz Hla Hce Bsz Bla Bce Tma Tlc Ttc day lim low hig thr off cre rcp pay) rfl rfl hP hK hD hN hS hA (q0 := 0) rfl rfl rfl rfl hl rfl (Nat.le_of_ble_eq_true rfl) dX5_takeReceipt_5 ⟨Nat.zero_le _, Nat.zero_le _⟩ (fun H locs hP hD hS => ?_)
  refine lv_istore_n (lv' := [(3, .int r_1), (0, .ref a0), (1, .int p1), (2, .int p2)]) hx hb dX5_takeReceipt_8 rfl hl (by decide) rfl (fun ls hl => ?_)
  refine lv_iload_n hx hb dX5_takeReceipt_9 rfl (lv_at hl 0 rfl) ?_
  refine lv_if_ge (tgt := 15) hx hb dX5_takeReceipt_10 (by decide) (fun c_3 => ?_) (fun c_3 => ?_)
  · have hf := x_t c_3 hf
    refine lv_iload_n hx hb dX5_takeReceipt_15 rfl (lv_at hl 3 rfl) ?_
    obtain ⟨r_4, h_5, hf⟩ := bd1_el hf
    refine x_callNi (As := [.int p2]) (rest := []) ⟨hx, hb, hml, hown, hts⟩ (mX7_isAmount l D cy   p2 r_4 h_5) ⟨va_cnB 1 hts (gcB_X7_isAmount hbg) rfl rfl rfl (nb_use hN 0 rfl) wd1 kdX7_isAmount ⟨Nat.le_of_ble_eq_true rfl, Nat.le_of_ble_eq_true rfl⟩, wd2, trivial⟩ (w1 := []) (w2 := wX5 cy a0 a1 a2 a3 a4 a5 a6 a7 a8 a9 a10 a11 Asz Anu Aba Amo Aco Hsz Hla Hce Bsz Bla Bce Tma Tlc Ttc day lim low hig thr off cre rcp pay) (w' := wX5 cy a0 a1 a2 a3 a4 a5 a6 a7 a8 a9 a10 a11 Asz Anu Aba Amo Aco Hsz Hla Hce Bsz Bla Bce Tma Tlc Ttc day lim low hig thr off cre rcp pay) rfl rfl hP hK hD hN hS hA rfl hl rfl (Nat.le_of_ble_eq_true rfl) dX5_takeReceipt_16 ⟨Nat.zero_le _, Nat.zero_le _⟩ (fun H locs hP hD hS => ?_)
    refine lv_if_ne (tgt := 25) hx hb dX5_takeReceipt_19 (by decide) (fun c_6 => ?_) (fun c_6 => ?_)
    · have hf := x_f c_6 hf
      refine lv_aload_n hx hb dX5_takeReceipt_25 rfl (lv_at hl 1 rfl) ?_
      refine x_get hx hb (C := RX5) (T := TX5) (N := 13) (ci := 5) hts iX5 hown hK hP 0 rfl rfl 0 (by decide) wd0 rfl (.ref a1) rfl dX5_takeReceipt_26 ?_
      refine lv_iload_n hx hb dX5_takeReceipt_29 rfl (lv_at hl 0 rfl) ?_
      obtain ⟨r_7, h_8, hf⟩ := bd1_el hf
      refine x_callVi (As := [.int r_1]) (rest := []) ⟨hx, hb, hml, hown, hts⟩ (mX0_balanceAt l D cy a1 a2 a3 a4 a5 Asz Anu Aba Amo Aco r_1 r_7 h_8) (cwV 1 hts (gcV_X0_balanceAt hbg wm_8_13) rfl rfl rfl kdX0_balanceAt ⟨Nat.le_of_ble_eq_true rfl, Nat.le_of_ble_eq_true rfl⟩) (w1 := [(a0, .inr (5, [.ref a1, .ref a6, .ref a8, .ref a10, .int day, .int lim, .int low, .int hig, .int thr, .long off, .long cre, .long rcp, .long pay]))]) (w2 := wX4 cy a6 a7 Hsz Hla Hce ++ (wX4 cy a8 a9 Bsz Bla Bce ++ (wX6 cy a10 a11 Tma Tlc Ttc))) (w' := wX5 cy a0 a1 a2 a3 a4 a5 a6 a7 a8 a9 a10 a11 Asz Anu Aba Amo Aco Hsz Hla Hce Bsz Bla Bce Tma Tlc Ttc day lim low hig thr off cre rcp pay) rfl rfl hP hK hD hN hS hA (q0 := 0) rfl rfl rfl rfl hl rfl (Nat.le_of_ble_eq_true rfl) dX5_takeReceipt_30 ⟨Nat.zero_le _, Nat.zero_le _⟩ (fun H locs hP hD hS => ?_)
      refine lv_ldc hx hb hown wd3 dX5_takeReceipt_33 ?_
      refine lv_iload_n hx hb dX5_takeReceipt_35 rfl (lv_at hl 3 rfl) ?_
      refine lv_isub hx hb dX5_takeReceipt_36 ?_
      refine lv_icmp_le (tgt := 43) hx hb dX5_takeReceipt_37 (by decide) (fun c_9 => ?_) (fun c_9 => ?_)
      · have hf := x_t c_9 hf
        refine lv_aload_n hx hb dX5_takeReceipt_43 rfl (lv_at hl 1 rfl) ?_
        refine x_get hx hb (C := RX5) (T := TX5) (N := 13) (ci := 5) hts iX5 hown hK hP 0 rfl rfl 0 (by decide) wd0 rfl (.ref a1) rfl dX5_takeReceipt_44 ?_
        refine lv_iload_n hx hb dX5_takeReceipt_47 rfl (lv_at hl 0 rfl) ?_
        refine lv_iload_n hx hb dX5_takeReceipt_48 rfl (lv_at hl 3 rfl) ?_
        obtain ⟨Aba_10, h_11, hf⟩ := bd1_el hf
        refine x_callVv (As := [.int r_1, .int p2]) (rest := []) ⟨hx, hb, hml, hown, hts⟩ (mX0_add l D cy a1 a2 a3 a4 a5 Asz Anu Aba Amo Aco r_1 p2 Aba_10 h_11) (cwV 2 hts (gcV_X0_add hbg wm_8_17) rfl rfl rfl kdX0_add ⟨Nat.le_of_ble_eq_true rfl, Nat.le_of_ble_eq_true rfl⟩) (w1 := [(a0, .inr (5, [.ref a1, .ref a6, .ref a8, .ref a10, .int day, .int lim, .int low, .int hig, .int thr, .long off, .long cre, .long rcp, .long pay]))]) (w2 := wX4 cy a6 a7 Hsz Hla Hce ++ (wX4 cy a8 a9 Bsz Bla Bce ++ (wX6 cy a10 a11 Tma Tlc Ttc))) (w' := wX5 cy a0 a1 a2 a3 a4 a5 a6 a7 a8 a9 a10 a11 Asz Anu Aba_10 Amo Aco Hsz Hla Hce Bsz Bla Bce Tma Tlc Ttc day lim low hig thr off cre rcp pay) rfl rfl hP hK hD hN hS hA (q0 := 0) rfl rfl rfl rfl hl rfl (Nat.le_of_ble_eq_true rfl) dX5_takeReceipt_49 ⟨Nat.zero_le _, Nat.zero_le _⟩ (fun H locs hP hD hS => ?_)
        refine lv_aload_n hx hb dX5_takeReceipt_52 rfl (lv_at hl 1 rfl) ?_
        refine lv_dup hx hb dX5_takeReceipt_53 rfl ?_
        refine x_get hx hb (C := RX5) (T := TX5) (N := 13) (ci := 5) hts iX5 hown hK hP 0 rfl rfl 11 (by decide) wd4 rfl (.long rcp) rfl dX5_takeReceipt_54 ?_
        refine lv_iload_n hx hb dX5_takeReceipt_57 rfl (lv_at hl 3 rfl) ?_
        refine lv_i2l (v := p2.toInt64) hx hb dX5_takeReceipt_58 rfl ?_
        refine lv_ladd hx hb dX5_takeReceipt_59 ?_
        obtain ⟨rcp_12, ercp_12, hf⟩ := lt_el hf
        refine x_topl ercp_12 ?_
        refine x_put hx hb (C := RX5) (T := TX5) (N := 13) (ci := 5) hts iX5 tyX5 tyX5_ok nmX5 hown hK hP hD hS 0 rfl rfl 11 (by decide) wd4 rfl rfl (ty := .long) rfl rfl rfl (Nat.le_of_ble_eq_true rfl) (w' := wX5 cy a0 a1 a2 a3 a4 a5 a6 a7 a8 a9 a10 a11 Asz Anu Aba_10 Amo Aco Hsz Hla Hce Bsz Bla Bce Tma Tlc Ttc day lim low hig thr off cre rcp_12 pay) rfl dX5_takeReceipt_60 (fun H locs hP hD hS => ?_)
        refine lv_aload_n hx hb dX5_takeReceipt_63 rfl (lv_at hl 1 rfl) ?_
        refine lv_iconst (v := 1) hx hb dX5_takeReceipt_64 (by decide) ?_
        refine lv_iload_n hx hb dX5_takeReceipt_65 rfl (lv_at hl 2 rfl) ?_
        refine lv_iconst (v := 0) hx hb dX5_takeReceipt_66 (by decide) ?_
        refine lv_iload_n hx hb dX5_takeReceipt_67 rfl (lv_at hl 3 rfl) ?_
        obtain ⟨Amo_13, Tma_14, Tlc_15, Ttc_16, h_17, hf⟩ := bd4_el hf
        refine x_callVv (As := [.int 1, .int p1, .int 0, .int p2]) (rest := []) ⟨hx, hb, hml, hown, hts⟩ (mX5_enter l D cy a0 a1 a2 a3 a4 a5 a6 a7 a8 a9 a10 a11 Asz Anu Aba_10 Amo Aco Hsz Hla Hce Bsz Bla Bce Tma Tlc Ttc day lim low hig thr off cre rcp_12 pay 1 p1 0 p2 Amo_13 Tma_14 Tlc_15 Ttc_16 h_17) (cwV 4 hts (gcV_X5_enter hbg wm_8_21) rfl rfl rfl kdX5_enter ⟨Nat.le_of_ble_eq_true rfl, Nat.le_of_ble_eq_true rfl⟩) (w1 := []) (w2 := []) (w' := wX5 cy a0 a1 a2 a3 a4 a5 a6 a7 a8 a9 a10 a11 Asz Anu Aba_10 Amo_13 Aco Hsz Hla Hce Bsz Bla Bce Tma_14 Tlc_15 Ttc_16 day lim low hig thr off cre rcp_12 pay) (List.append_nil _) (List.append_nil _) hP hK hD hN hS hA (q0 := 0) rfl rfl rfl rfl hl rfl (Nat.le_of_ble_eq_true rfl) dX5_takeReceipt_68 ⟨Nat.zero_le _, Nat.zero_le _⟩ (fun H locs hP hD hS => ?_)
        refine lv_aload_n hx hb dX5_takeReceipt_71 rfl (lv_at hl 1 rfl) ?_
        refine x_get hx hb (C := RX5) (T := TX5) (N := 13) (ci := 5) hts iX5 hown hK hP 0 rfl rfl 0 (by decide) wd0 rfl (.ref a1) rfl dX5_takeReceipt_72 ?_
        refine lv_iload_n hx hb dX5_takeReceipt_75 rfl (lv_at hl 0 rfl) ?_
        obtain ⟨r_18, h_19, hf⟩ := bd1_el hf
        refine x_callVi (As := [.int r_1]) (rest := []) ⟨hx, hb, hml, hown, hts⟩ (mX0_balanceAt l D cy a1 a2 a3 a4 a5 Asz Anu Aba_10 Amo_13 Aco r_1 r_18 h_19) (cwV 1 hts (gcV_X0_balanceAt hbg wm_8_13) rfl rfl rfl kdX0_balanceAt ⟨Nat.le_of_ble_eq_true rfl, Nat.le_of_ble_eq_true rfl⟩) (w1 := [(a0, .inr (5, [.ref a1, .ref a6, .ref a8, .ref a10, .int day, .int lim, .int low, .int hig, .int thr, .long off, .long cre, .long rcp_12, .long pay]))]) (w2 := wX4 cy a6 a7 Hsz Hla Hce ++ (wX4 cy a8 a9 Bsz Bla Bce ++ (wX6 cy a10 a11 Tma_14 Tlc_15 Ttc_16))) (w' := wX5 cy a0 a1 a2 a3 a4 a5 a6 a7 a8 a9 a10 a11 Asz Anu Aba_10 Amo_13 Aco Hsz Hla Hce Bsz Bla Bce Tma_14 Tlc_15 Ttc_16 day lim low hig thr off cre rcp_12 pay) rfl rfl hP hK hD hN hS hA (q0 := 0) rfl rfl rfl rfl hl rfl (Nat.le_of_ble_eq_true rfl) dX5_takeReceipt_76 ⟨Nat.zero_le _, Nat.zero_le _⟩ (fun H locs hP hD hS => ?_)
        have hf := Option.some.inj hf
        cases hf
        exact x_iret hx hb hr hlocks hK hP hD hS dX5_takeReceipt_79
      · have hf := x_f c_9 hf
        refine lv_bipush (v := (-4)) hx hb dX5_takeReceipt_40 (by decide) ?_
        have hf := Option.some.inj hf
        cases hf
        exact x_iret hx hb hr hlocks hK hP hD hS dX5_takeReceipt_42
    · have hf := x_t c_6 hf
      refine lv_bipush (v := (-2)) hx hb dX5_takeReceipt_22 (by decide) ?_
      have hf := Option.some.inj hf
      cases hf
      exact x_iret hx hb hr hlocks hK hP hD hS dX5_takeReceipt_24
  · have hf := x_f c_3 hf
    refine lv_iconst (v := (-1)) hx hb dX5_takeReceipt_13 (by decide) ?_
    have hf := Option.some.inj hf
    cases hf
    exact x_iret hx hb hr hlocks hK hP hD hS dX5_takeReceipt_14
theorem kdX5_makePayment : yX5_makePayment.cls = RX5 ∧ yX5_makePayment.cls ≠ "java/lang/invoke/MethodHandle" ∧ yX5_makePayment.cls ≠ "java/lang/invoke/VarHandle" ∧ (parseMethodDescriptor yX5_makePayment.desc).map (fun d => d.parameters.length) = some 2 := by decide +kernel
def rmX5_makePayment : Room := { frames := 4, cells := 0, slots := 0, locals := 96 }
set_option maxHeartbeats 4000000 in
set_option maxRecDepth 100000 in
theorem mX5_makePayment (l : Launch) (D : va_G) (cy : Nat → ClassId) (a0 a1 a2 a3 a4 a5 a6 a7 a8 a9 a10 a11 : Nat) (Asz : Int32) (Anu : Nat → Int32) (Aba : Nat → Int32) (Amo : Nat → Int32) (Aco : Nat → Int64) (Hsz : Int32) (Hla : Int32) (Hce : Nat → Int32) (Bsz : Int32) (Bla : Int32) (Bce : Nat → Int32) (Tma : Int32) (Tlc : Int32) (Ttc : Nat → Int32) (day : Int32) (lim : Int32) (low : Int32) (hig : Int32) (thr : Int32) (off : Int64) (cre : Int64) (rcp : Int64) (pay : Int64) (p1 : Int32) (p2 : Int32) (r : Int32) (Aba' : Nat → Int32) (Amo' : Nat → Int32) (Tma' : Int32) (Tlc' : Int32) (Ttc' : Nat → Int32) (pay' : Int64) (hf : fX5_makePayment Asz Anu Aba Amo Hsz Hce Tma Tlc Ttc day pay p1 p2 = some (r, Aba', Amo', Tma', Tlc', Ttc', pay')) : xMi l D cy yX5_makePayment aX5_makePayment rmX5_makePayment ([.ref a0, .int p1, .int p2] : List Value) (wX5 cy a0 a1 a2 a3 a4 a5 a6 a7 a8 a9 a10 a11 Asz Anu Aba Amo Aco Hsz Hla Hce Bsz Bla Bce Tma Tlc Ttc day lim low hig thr off cre rcp pay) (wX5 cy a0 a1 a2 a3 a4 a5 a6 a7 a8 a9 a10 a11 Asz Anu Aba' Amo' Aco Hsz Hla Hce Bsz Bla Bce Tma' Tlc' Ttc' day lim low hig thr off cre rcp pay') r := by
  intro hz
  refine x_start (Qc := xQi D cy _ r) (cc := cX5_makePayment) (maxL := 4) (ret := (some .int)) (by decide) rfl (Nat.le_of_ble_eq_true rfl) (lv := [(0, .ref a0), (1, .int p1), (2, .int p2)]) rfl ?_
  intro p e s m below meth c ls A hx hb hr hml hown hts hlocks hK hP hD hS hA hN hl
  have hown : s.vm.findClass RX5 = some m.cls := hown
  have hbg : ∀ w ∈ wsL_law, w ∈ aX5_makePayment := fun w h => List.mem_cons_of_mem _ h
  have wd0 : (Cond.fieldLink RX5 12 "ClientMoneyBook$State" "accounts" "LClientMoneyBook$Accounts;").before ([.ref a0, .int p1, .int p2] : List Value).toArray s = true := hts _ (List.mem_cons_of_mem _ wm_1_20)
  have wd1 : (Cond.initialized RX7).before ([.ref a0, .int p1, .int p2] : List Value).toArray s = true := hts _ (List.mem_cons_of_mem _ wm_0_2)
  have wd2 : (Cond.static yX7_isAmount).before ([.ref a0, .int p1, .int p2] : List Value).toArray s = true := hts _ (List.mem_cons_of_mem _ wm_8_10)
  have wd3 : (Cond.fieldLink RX5 62 "ClientMoneyBook$State" "payments" "J").before ([.ref a0, .int p1, .int p2] : List Value).toArray s = true := hts _ (List.mem_cons_of_mem _ wm_2_15)
  have iX5 : ∀ w ∈ u_ws RX5 TX5 13, w ∈ aX5_makePayment := fun w h => List.mem_cons_of_mem _ (inlX5 w h)
  unfold fX5_makePayment at hf
  refine lv_aload_n hx hb dX5_makePayment_0 rfl (lv_at hl 0 rfl) ?_
  refine x_get hx hb (C := RX5) (T := TX5) (N := 13) (ci := 5) hts iX5 hown hK hP 0 rfl rfl 0 (by decide) wd0 rfl (.ref a1) rfl dX5_makePayment_1 ?_
  refine lv_iload_n hx hb dX5_makePayment_4 rfl (lv_at hl 1 rfl) ?_
  obtain ⟨r_1, h_2, hf⟩ := bd1_el hf
  refine x_callVi (As := [.int p1]) (rest := []) ⟨hx, hb, hml, hown, hts⟩ (mX0_find l D cy a1 a2 a3 a4 a5 Asz Anu Aba Amo Aco p1 r_1 h_2) (cwV 1 hts (gcV_X0_find hbg wm_6_14) rfl rfl rfl kdX0_find ⟨Nat.le_of_ble_eq_true rfl, Nat.le_of_ble_eq_true rfl⟩) (w1 := [(a0, .inr (5, [.ref a1, .ref a6, .ref a8, .ref a10, .int day, .int lim, .int low, .int hig, .int thr, .long off, .long cre, .long rcp, .long pay]))]) (w2 := wX4 cy a6 a7 Hsz Hla Hce ++ (wX4 cy a8 a9 Bsz Bla Bce ++ (wX6 cy a10 a11 Tma Tlc Ttc))) (w' := wX5 cy a0 a1 a2 a3 a4 a5 a6 a7 a8 a9 a10 a11 Asz Anu Aba Amo Aco Hsz Hla Hce Bsz Bla Bce Tma Tlc Ttc day lim low hig thr off cre rcp pay) rfl rfl hP hK hD hN hS hA (q0 := 0) rfl rfl rfl rfl hl rfl (Nat.le_of_ble_eq_true rfl) dX5_makePayment_5 ⟨Nat.zero_le _, Nat.zero_le _⟩ (fun H locs hP hD hS => ?_)
  refine lv_istore_n (lv' := [(3, .int r_1), (0, .ref a0), (1, .int p1), (2, .int p2)]) hx hb dX5_makePayment_8 rfl hl (by decide) rfl (fun ls hl => ?_)
  refine lv_iload_n hx hb dX5_makePayment_9 rfl (lv_at hl 0 rfl) ?_
  refine lv_if_ge (tgt := 15) hx hb dX5_makePayment_10 (by decide) (fun c_3 => ?_) (fun c_3 => ?_)
  · have hf := x_t c_3 hf
    refine lv_iload_n hx hb dX5_makePayment_15 rfl (lv_at hl 3 rfl) ?_
    obtain ⟨r_4, h_5, hf⟩ := bd1_el hf
    refine x_callNi (As := [.int p2]) (rest := []) ⟨hx, hb, hml, hown, hts⟩ (mX7_isAmount l D cy   p2 r_4 h_5) ⟨va_cnB 1 hts (gcB_X7_isAmount hbg) rfl rfl rfl (nb_use hN 0 rfl) wd1 kdX7_isAmount ⟨Nat.le_of_ble_eq_true rfl, Nat.le_of_ble_eq_true rfl⟩, wd2, trivial⟩ (w1 := []) (w2 := wX5 cy a0 a1 a2 a3 a4 a5 a6 a7 a8 a9 a10 a11 Asz Anu Aba Amo Aco Hsz Hla Hce Bsz Bla Bce Tma Tlc Ttc day lim low hig thr off cre rcp pay) (w' := wX5 cy a0 a1 a2 a3 a4 a5 a6 a7 a8 a9 a10 a11 Asz Anu Aba Amo Aco Hsz Hla Hce Bsz Bla Bce Tma Tlc Ttc day lim low hig thr off cre rcp pay) rfl rfl hP hK hD hN hS hA rfl hl rfl (Nat.le_of_ble_eq_true rfl) dX5_makePayment_16 ⟨Nat.zero_le _, Nat.zero_le _⟩ (fun H locs hP hD hS => ?_)
    refine lv_if_ne (tgt := 25) hx hb dX5_makePayment_19 (by decide) (fun c_6 => ?_) (fun c_6 => ?_)
    · have hf := x_f c_6 hf
      refine lv_aload_n hx hb dX5_makePayment_25 rfl (lv_at hl 1 rfl) ?_
      refine lv_iload_n hx hb dX5_makePayment_26 rfl (lv_at hl 0 rfl) ?_
      obtain ⟨r_7, h_8, hf⟩ := bd1_el hf
      refine x_callVi (As := [.int r_1]) (rest := []) ⟨hx, hb, hml, hown, hts⟩ (mX5_freeAt l D cy a0 a1 a2 a3 a4 a5 a6 a7 a8 a9 a10 a11 Asz Anu Aba Amo Aco Hsz Hla Hce Bsz Bla Bce Tma Tlc Ttc day lim low hig thr off cre rcp pay r_1 r_7 h_8) (cwV 1 hts (gcV_X5_freeAt hbg wm_10_21) rfl rfl rfl kdX5_freeAt ⟨Nat.le_of_ble_eq_true rfl, Nat.le_of_ble_eq_true rfl⟩) (w1 := []) (w2 := []) (w' := wX5 cy a0 a1 a2 a3 a4 a5 a6 a7 a8 a9 a10 a11 Asz Anu Aba Amo Aco Hsz Hla Hce Bsz Bla Bce Tma Tlc Ttc day lim low hig thr off cre rcp pay) (List.append_nil _) (List.append_nil _) hP hK hD hN hS hA (q0 := 0) rfl rfl rfl rfl hl rfl (Nat.le_of_ble_eq_true rfl) dX5_makePayment_27 ⟨Nat.zero_le _, Nat.zero_le _⟩ (fun H locs hP hD hS => ?_)
      refine lv_iload_n hx hb dX5_makePayment_30 rfl (lv_at hl 3 rfl) ?_
      refine lv_icmp_ge (tgt := 37) hx hb dX5_makePayment_31 (by decide) (fun c_9 => ?_) (fun c_9 => ?_)
      · have hf := x_t c_9 hf
        refine lv_aload_n hx hb dX5_makePayment_37 rfl (lv_at hl 1 rfl) ?_
        refine x_get hx hb (C := RX5) (T := TX5) (N := 13) (ci := 5) hts iX5 hown hK hP 0 rfl rfl 0 (by decide) wd0 rfl (.ref a1) rfl dX5_makePayment_38 ?_
        refine lv_iload_n hx hb dX5_makePayment_41 rfl (lv_at hl 0 rfl) ?_
        refine lv_iload_n hx hb dX5_makePayment_42 rfl (lv_at hl 3 rfl) ?_
        refine lv_ineg hx hb dX5_makePayment_43 ?_
        obtain ⟨Aba_10, h_11, hf⟩ := bd1_el hf
        refine x_callVv (As := [.int r_1, .int (-p2)]) (rest := []) ⟨hx, hb, hml, hown, hts⟩ (mX0_add l D cy a1 a2 a3 a4 a5 Asz Anu Aba Amo Aco r_1 (-p2) Aba_10 h_11) (cwV 2 hts (gcV_X0_add hbg wm_8_17) rfl rfl rfl kdX0_add ⟨Nat.le_of_ble_eq_true rfl, Nat.le_of_ble_eq_true rfl⟩) (w1 := [(a0, .inr (5, [.ref a1, .ref a6, .ref a8, .ref a10, .int day, .int lim, .int low, .int hig, .int thr, .long off, .long cre, .long rcp, .long pay]))]) (w2 := wX4 cy a6 a7 Hsz Hla Hce ++ (wX4 cy a8 a9 Bsz Bla Bce ++ (wX6 cy a10 a11 Tma Tlc Ttc))) (w' := wX5 cy a0 a1 a2 a3 a4 a5 a6 a7 a8 a9 a10 a11 Asz Anu Aba_10 Amo Aco Hsz Hla Hce Bsz Bla Bce Tma Tlc Ttc day lim low hig thr off cre rcp pay) rfl rfl hP hK hD hN hS hA (q0 := 0) rfl rfl rfl rfl hl rfl (Nat.le_of_ble_eq_true rfl) dX5_makePayment_44 ⟨Nat.zero_le _, Nat.zero_le _⟩ (fun H locs hP hD hS => ?_)
        refine lv_aload_n hx hb dX5_makePayment_47 rfl (lv_at hl 1 rfl) ?_
        refine lv_dup hx hb dX5_makePayment_48 rfl ?_
        refine x_get hx hb (C := RX5) (T := TX5) (N := 13) (ci := 5) hts iX5 hown hK hP 0 rfl rfl 12 (by decide) wd3 rfl (.long pay) rfl dX5_makePayment_49 ?_
        refine lv_iload_n hx hb dX5_makePayment_52 rfl (lv_at hl 3 rfl) ?_
        refine lv_i2l (v := p2.toInt64) hx hb dX5_makePayment_53 rfl ?_
        refine lv_ladd hx hb dX5_makePayment_54 ?_
        obtain ⟨pay_12, epay_12, hf⟩ := lt_el hf
        refine x_topl epay_12 ?_
        refine x_put hx hb (C := RX5) (T := TX5) (N := 13) (ci := 5) hts iX5 tyX5 tyX5_ok nmX5 hown hK hP hD hS 0 rfl rfl 12 (by decide) wd3 rfl rfl (ty := .long) rfl rfl rfl (Nat.le_of_ble_eq_true rfl) (w' := wX5 cy a0 a1 a2 a3 a4 a5 a6 a7 a8 a9 a10 a11 Asz Anu Aba_10 Amo Aco Hsz Hla Hce Bsz Bla Bce Tma Tlc Ttc day lim low hig thr off cre rcp pay_12) rfl dX5_makePayment_55 (fun H locs hP hD hS => ?_)
        refine lv_aload_n hx hb dX5_makePayment_58 rfl (lv_at hl 1 rfl) ?_
        refine lv_iconst (v := 2) hx hb dX5_makePayment_59 (by decide) ?_
        refine lv_iload_n hx hb dX5_makePayment_60 rfl (lv_at hl 2 rfl) ?_
        refine lv_iconst (v := 0) hx hb dX5_makePayment_61 (by decide) ?_
        refine lv_iload_n hx hb dX5_makePayment_62 rfl (lv_at hl 3 rfl) ?_
        obtain ⟨Amo_13, Tma_14, Tlc_15, Ttc_16, h_17, hf⟩ := bd4_el hf
        refine x_callVv (As := [.int 2, .int p1, .int 0, .int p2]) (rest := []) ⟨hx, hb, hml, hown, hts⟩ (mX5_enter l D cy a0 a1 a2 a3 a4 a5 a6 a7 a8 a9 a10 a11 Asz Anu Aba_10 Amo Aco Hsz Hla Hce Bsz Bla Bce Tma Tlc Ttc day lim low hig thr off cre rcp pay_12 2 p1 0 p2 Amo_13 Tma_14 Tlc_15 Ttc_16 h_17) (cwV 4 hts (gcV_X5_enter hbg wm_8_21) rfl rfl rfl kdX5_enter ⟨Nat.le_of_ble_eq_true rfl, Nat.le_of_ble_eq_true rfl⟩) (w1 := []) (w2 := []) (w' := wX5 cy a0 a1 a2 a3 a4 a5 a6 a7 a8 a9 a10 a11 Asz Anu Aba_10 Amo_13 Aco Hsz Hla Hce Bsz Bla Bce Tma_14 Tlc_15 Ttc_16 day lim low hig thr off cre rcp pay_12) (List.append_nil _) (List.append_nil _) hP hK hD hN hS hA (q0 := 0) rfl rfl rfl rfl hl rfl (Nat.le_of_ble_eq_true rfl) dX5_makePayment_63 ⟨Nat.zero_le _, Nat.zero_le _⟩ (fun H locs hP hD hS => ?_)
        refine lv_aload_n hx hb dX5_makePayment_66 rfl (lv_at hl 1 rfl) ?_
        refine x_get hx hb (C := RX5) (T := TX5) (N := 13) (ci := 5) hts iX5 hown hK hP 0 rfl rfl 0 (by decide) wd0 rfl (.ref a1) rfl dX5_makePayment_67 ?_
        refine lv_iload_n hx hb dX5_makePayment_70 rfl (lv_at hl 0 rfl) ?_
        obtain ⟨r_18, h_19, hf⟩ := bd1_el hf
        refine x_callVi (As := [.int r_1]) (rest := []) ⟨hx, hb, hml, hown, hts⟩ (mX0_balanceAt l D cy a1 a2 a3 a4 a5 Asz Anu Aba_10 Amo_13 Aco r_1 r_18 h_19) (cwV 1 hts (gcV_X0_balanceAt hbg wm_8_13) rfl rfl rfl kdX0_balanceAt ⟨Nat.le_of_ble_eq_true rfl, Nat.le_of_ble_eq_true rfl⟩) (w1 := [(a0, .inr (5, [.ref a1, .ref a6, .ref a8, .ref a10, .int day, .int lim, .int low, .int hig, .int thr, .long off, .long cre, .long rcp, .long pay_12]))]) (w2 := wX4 cy a6 a7 Hsz Hla Hce ++ (wX4 cy a8 a9 Bsz Bla Bce ++ (wX6 cy a10 a11 Tma_14 Tlc_15 Ttc_16))) (w' := wX5 cy a0 a1 a2 a3 a4 a5 a6 a7 a8 a9 a10 a11 Asz Anu Aba_10 Amo_13 Aco Hsz Hla Hce Bsz Bla Bce Tma_14 Tlc_15 Ttc_16 day lim low hig thr off cre rcp pay_12) rfl rfl hP hK hD hN hS hA (q0 := 0) rfl rfl rfl rfl hl rfl (Nat.le_of_ble_eq_true rfl) dX5_makePayment_71 ⟨Nat.zero_le _, Nat.zero_le _⟩ (fun H locs hP hD hS => ?_)
        have hf := Option.some.inj hf
        cases hf
        exact x_iret hx hb hr hlocks hK hP hD hS dX5_makePayment_74
      · have hf := x_f c_9 hf
        refine lv_bipush (v := (-3)) hx hb dX5_makePayment_34 (by decide) ?_
        have hf := Option.some.inj hf
        cases hf
        exact x_iret hx hb hr hlocks hK hP hD hS dX5_makePayment_36
    · have hf := x_t c_6 hf
      refine lv_bipush (v := (-2)) hx hb dX5_makePayment_22 (by decide) ?_
      have hf := Option.some.inj hf
      cases hf
      exact x_iret hx hb hr hlocks hK hP hD hS dX5_makePayment_24
  · have hf := x_f c_3 hf
    refine lv_iconst (v := (-1)) hx hb dX5_makePayment_13 (by decide) ?_
    have hf := Option.some.inj hf
    cases hf
    exact x_iret hx hb hr hlocks hK hP hD hS dX5_makePayment_14
theorem kdX5_makeTransfer : yX5_makeTransfer.cls = RX5 ∧ yX5_makeTransfer.cls ≠ "java/lang/invoke/MethodHandle" ∧ yX5_makeTransfer.cls ≠ "java/lang/invoke/VarHandle" ∧ (parseMethodDescriptor yX5_makeTransfer.desc).map (fun d => d.parameters.length) = some 3 := by decide +kernel
def rmX5_makeTransfer : Room := { frames := 4, cells := 0, slots := 0, locals := 96 }
set_option maxHeartbeats 4000000 in
set_option maxRecDepth 100000 in
theorem mX5_makeTransfer (l : Launch) (D : va_G) (cy : Nat → ClassId) (a0 a1 a2 a3 a4 a5 a6 a7 a8 a9 a10 a11 : Nat) (Asz : Int32) (Anu : Nat → Int32) (Aba : Nat → Int32) (Amo : Nat → Int32) (Aco : Nat → Int64) (Hsz : Int32) (Hla : Int32) (Hce : Nat → Int32) (Bsz : Int32) (Bla : Int32) (Bce : Nat → Int32) (Tma : Int32) (Tlc : Int32) (Ttc : Nat → Int32) (day : Int32) (lim : Int32) (low : Int32) (hig : Int32) (thr : Int32) (off : Int64) (cre : Int64) (rcp : Int64) (pay : Int64) (p1 : Int32) (p2 : Int32) (p3 : Int32) (r : Int32) (Aba' : Nat → Int32) (Amo' : Nat → Int32) (Tma' : Int32) (Tlc' : Int32) (Ttc' : Nat → Int32) (hf : fX5_makeTransfer Asz Anu Aba Amo Hsz Hce Tma Tlc Ttc day p1 p2 p3 = some (r, Aba', Amo', Tma', Tlc', Ttc')) : xMi l D cy yX5_makeTransfer aX5_makeTransfer rmX5_makeTransfer ([.ref a0, .int p1, .int p2, .int p3] : List Value) (wX5 cy a0 a1 a2 a3 a4 a5 a6 a7 a8 a9 a10 a11 Asz Anu Aba Amo Aco Hsz Hla Hce Bsz Bla Bce Tma Tlc Ttc day lim low hig thr off cre rcp pay) (wX5 cy a0 a1 a2 a3 a4 a5 a6 a7 a8 a9 a10 a11 Asz Anu Aba' Amo' Aco Hsz Hla Hce Bsz Bla Bce Tma' Tlc' Ttc' day lim low hig thr off cre rcp pay) r := by
  intro hz
  refine x_start (Qc := xQi D cy _ r) (cc := cX5_makeTransfer) (maxL := 6) (ret := (some .int)) (by decide) rfl (Nat.le_of_ble_eq_true rfl) (lv := [(0, .ref a0), (1, .int p1), (2, .int p2), (3, .int p3)]) rfl ?_
  intro p e s m below meth c ls A hx hb hr hml hown hts hlocks hK hP hD hS hA hN hl
  have hown : s.vm.findClass RX5 = some m.cls := hown
  have hbg : ∀ w ∈ wsL_law, w ∈ aX5_makeTransfer := fun w h => List.mem_cons_of_mem _ h
  have wd0 : (Cond.fieldLink RX5 12 "ClientMoneyBook$State" "accounts" "LClientMoneyBook$Accounts;").before ([.ref a0, .int p1, .int p2, .int p3] : List Value).toArray s = true := hts _ (List.mem_cons_of_mem _ wm_1_20)
  have wd1 : (Cond.initialized RX7).before ([.ref a0, .int p1, .int p2, .int p3] : List Value).toArray s = true := hts _ (List.mem_cons_of_mem _ wm_0_2)
  have wd2 : (Cond.static yX7_isAmount).before ([.ref a0, .int p1, .int p2, .int p3] : List Value).toArray s = true := hts _ (List.mem_cons_of_mem _ wm_8_10)
  have wd3 : (Cond.constant RX5 75 (1000000000)).before ([.ref a0, .int p1, .int p2, .int p3] : List Value).toArray s = true := hts _ (List.mem_cons_of_mem _ wm_8_9)
  have iX5 : ∀ w ∈ u_ws RX5 TX5 13, w ∈ aX5_makeTransfer := fun w h => List.mem_cons_of_mem _ (inlX5 w h)
  unfold fX5_makeTransfer at hf
  refine lv_aload_n hx hb dX5_makeTransfer_0 rfl (lv_at hl 0 rfl) ?_
  refine x_get hx hb (C := RX5) (T := TX5) (N := 13) (ci := 5) hts iX5 hown hK hP 0 rfl rfl 0 (by decide) wd0 rfl (.ref a1) rfl dX5_makeTransfer_1 ?_
  refine lv_iload_n hx hb dX5_makeTransfer_4 rfl (lv_at hl 1 rfl) ?_
  obtain ⟨r_1, h_2, hf⟩ := bd1_el hf
  refine x_callVi (As := [.int p1]) (rest := []) ⟨hx, hb, hml, hown, hts⟩ (mX0_find l D cy a1 a2 a3 a4 a5 Asz Anu Aba Amo Aco p1 r_1 h_2) (cwV 1 hts (gcV_X0_find hbg wm_6_14) rfl rfl rfl kdX0_find ⟨Nat.le_of_ble_eq_true rfl, Nat.le_of_ble_eq_true rfl⟩) (w1 := [(a0, .inr (5, [.ref a1, .ref a6, .ref a8, .ref a10, .int day, .int lim, .int low, .int hig, .int thr, .long off, .long cre, .long rcp, .long pay]))]) (w2 := wX4 cy a6 a7 Hsz Hla Hce ++ (wX4 cy a8 a9 Bsz Bla Bce ++ (wX6 cy a10 a11 Tma Tlc Ttc))) (w' := wX5 cy a0 a1 a2 a3 a4 a5 a6 a7 a8 a9 a10 a11 Asz Anu Aba Amo Aco Hsz Hla Hce Bsz Bla Bce Tma Tlc Ttc day lim low hig thr off cre rcp pay) rfl rfl hP hK hD hN hS hA (q0 := 0) rfl rfl rfl rfl hl rfl (Nat.le_of_ble_eq_true rfl) dX5_makeTransfer_5 ⟨Nat.zero_le _, Nat.zero_le _⟩ (fun H locs hP hD hS => ?_)
  refine lv_istore (lv' := [(4, .int r_1), (0, .ref a0), (1, .int p1), (2, .int p2), (3, .int p3)]) hx hb dX5_makeTransfer_8 hl (by decide) rfl (fun ls hl => ?_)
  refine lv_aload_n hx hb dX5_makeTransfer_10 rfl (lv_at hl 1 rfl) ?_
  refine x_get hx hb (C := RX5) (T := TX5) (N := 13) (ci := 5) hts iX5 hown hK hP 0 rfl rfl 0 (by decide) wd0 rfl (.ref a1) rfl dX5_makeTransfer_11 ?_
  refine lv_iload_n hx hb dX5_makeTransfer_14 rfl (lv_at hl 3 rfl) ?_
  obtain ⟨r_3, h_4, hf⟩ := bd1_el hf
  refine x_callVi (As := [.int p2]) (rest := []) ⟨hx, hb, hml, hown, hts⟩ (mX0_find l D cy a1 a2 a3 a4 a5 Asz Anu Aba Amo Aco p2 r_3 h_4) (cwV 1 hts (gcV_X0_find hbg wm_6_14) rfl rfl rfl kdX0_find ⟨Nat.le_of_ble_eq_true rfl, Nat.le_of_ble_eq_true rfl⟩) (w1 := [(a0, .inr (5, [.ref a1, .ref a6, .ref a8, .ref a10, .int day, .int lim, .int low, .int hig, .int thr, .long off, .long cre, .long rcp, .long pay]))]) (w2 := wX4 cy a6 a7 Hsz Hla Hce ++ (wX4 cy a8 a9 Bsz Bla Bce ++ (wX6 cy a10 a11 Tma Tlc Ttc))) (w' := wX5 cy a0 a1 a2 a3 a4 a5 a6 a7 a8 a9 a10 a11 Asz Anu Aba Amo Aco Hsz Hla Hce Bsz Bla Bce Tma Tlc Ttc day lim low hig thr off cre rcp pay) rfl rfl hP hK hD hN hS hA (q0 := 0) rfl rfl rfl rfl hl rfl (Nat.le_of_ble_eq_true rfl) dX5_makeTransfer_15 ⟨Nat.zero_le _, Nat.zero_le _⟩ (fun H locs hP hD hS => ?_)
  refine lv_istore (lv' := [(5, .int r_3), (4, .int r_1), (0, .ref a0), (1, .int p1), (2, .int p2), (3, .int p3)]) hx hb dX5_makeTransfer_18 hl (by decide) rfl (fun ls hl => ?_)
  refine lv_iload hx hb dX5_makeTransfer_20 (lv_at hl 1 rfl) ?_
  refine lv_if_lt (tgt := 30) hx hb dX5_makeTransfer_22 (by decide) (fun c_5 => ?_) (fun c_5 => ?_)
  · have hf := x_t c_5 hf
    refine lv_iconst (v := (-1)) hx hb dX5_makeTransfer_30 (by decide) ?_
    have hf := Option.some.inj hf
    cases hf
    exact x_iret hx hb hr hlocks hK hP hD hS dX5_makeTransfer_31
  · have hf := x_f c_5 hf
    refine lv_iload hx hb dX5_makeTransfer_25 (lv_at hl 0 rfl) ?_
    refine lv_if_ge (tgt := 32) hx hb dX5_makeTransfer_27 (by decide) (fun c_6 => ?_) (fun c_6 => ?_)
    · have hf := x_t c_6 hf
      refine lv_iload hx hb dX5_makeTransfer_32 (lv_at hl 1 rfl) ?_
      refine lv_iload hx hb dX5_makeTransfer_34 (lv_at hl 0 rfl) ?_
      refine lv_icmp_eq (tgt := 46) hx hb dX5_makeTransfer_36 (by decide) (fun c_7 => ?_) (fun c_7 => ?_)
      · have hf := x_t c_7 hf
        refine lv_bipush (v := (-2)) hx hb dX5_makeTransfer_46 (by decide) ?_
        have hf := Option.some.inj hf
        cases hf
        exact x_iret hx hb hr hlocks hK hP hD hS dX5_makeTransfer_48
      · have hf := x_f c_7 hf
        refine lv_iload_n hx hb dX5_makeTransfer_39 rfl (lv_at hl 5 rfl) ?_
        obtain ⟨r_8, h_9, hf⟩ := bd1_el hf
        refine x_callNi (As := [.int p3]) (rest := []) ⟨hx, hb, hml, hown, hts⟩ (mX7_isAmount l D cy   p3 r_8 h_9) ⟨va_cnB 1 hts (gcB_X7_isAmount hbg) rfl rfl rfl (nb_use hN 0 rfl) wd1 kdX7_isAmount ⟨Nat.le_of_ble_eq_true rfl, Nat.le_of_ble_eq_true rfl⟩, wd2, trivial⟩ (w1 := []) (w2 := wX5 cy a0 a1 a2 a3 a4 a5 a6 a7 a8 a9 a10 a11 Asz Anu Aba Amo Aco Hsz Hla Hce Bsz Bla Bce Tma Tlc Ttc day lim low hig thr off cre rcp pay) (w' := wX5 cy a0 a1 a2 a3 a4 a5 a6 a7 a8 a9 a10 a11 Asz Anu Aba Amo Aco Hsz Hla Hce Bsz Bla Bce Tma Tlc Ttc day lim low hig thr off cre rcp pay) rfl rfl hP hK hD hN hS hA rfl hl rfl (Nat.le_of_ble_eq_true rfl) dX5_makeTransfer_40 ⟨Nat.zero_le _, Nat.zero_le _⟩ (fun H locs hP hD hS => ?_)
        refine lv_if_ne (tgt := 49) hx hb dX5_makeTransfer_43 (by decide) (fun c_10 => ?_) (fun c_10 => ?_)
        · have hf := x_f c_10 hf
          refine lv_aload_n hx hb dX5_makeTransfer_49 rfl (lv_at hl 2 rfl) ?_
          refine lv_iload hx hb dX5_makeTransfer_50 (lv_at hl 1 rfl) ?_
          obtain ⟨r_11, h_12, hf⟩ := bd1_el hf
          refine x_callVi (As := [.int r_1]) (rest := []) ⟨hx, hb, hml, hown, hts⟩ (mX5_freeAt l D cy a0 a1 a2 a3 a4 a5 a6 a7 a8 a9 a10 a11 Asz Anu Aba Amo Aco Hsz Hla Hce Bsz Bla Bce Tma Tlc Ttc day lim low hig thr off cre rcp pay r_1 r_11 h_12) (cwV 1 hts (gcV_X5_freeAt hbg wm_10_21) rfl rfl rfl kdX5_freeAt ⟨Nat.le_of_ble_eq_true rfl, Nat.le_of_ble_eq_true rfl⟩) (w1 := []) (w2 := []) (w' := wX5 cy a0 a1 a2 a3 a4 a5 a6 a7 a8 a9 a10 a11 Asz Anu Aba Amo Aco Hsz Hla Hce Bsz Bla Bce Tma Tlc Ttc day lim low hig thr off cre rcp pay) (List.append_nil _) (List.append_nil _) hP hK hD hN hS hA (q0 := 0) rfl rfl rfl rfl hl rfl (Nat.le_of_ble_eq_true rfl) dX5_makeTransfer_52 ⟨Nat.zero_le _, Nat.zero_le _⟩ (fun H locs hP hD hS => ?_)
          refine lv_iload_n hx hb dX5_makeTransfer_55 rfl (lv_at hl 5 rfl) ?_
          refine lv_icmp_ge (tgt := 62) hx hb dX5_makeTransfer_56 (by decide) (fun c_13 => ?_) (fun c_13 => ?_)
          · have hf := x_t c_13 hf
            refine lv_aload_n hx hb dX5_makeTransfer_62 rfl (lv_at hl 2 rfl) ?_
            refine x_get hx hb (C := RX5) (T := TX5) (N := 13) (ci := 5) hts iX5 hown hK hP 0 rfl rfl 0 (by decide) wd0 rfl (.ref a1) rfl dX5_makeTransfer_63 ?_
            refine lv_iload hx hb dX5_makeTransfer_66 (lv_at hl 0 rfl) ?_
            obtain ⟨r_14, h_15, hf⟩ := bd1_el hf
            refine x_callVi (As := [.int r_3]) (rest := []) ⟨hx, hb, hml, hown, hts⟩ (mX0_balanceAt l D cy a1 a2 a3 a4 a5 Asz Anu Aba Amo Aco r_3 r_14 h_15) (cwV 1 hts (gcV_X0_balanceAt hbg wm_8_13) rfl rfl rfl kdX0_balanceAt ⟨Nat.le_of_ble_eq_true rfl, Nat.le_of_ble_eq_true rfl⟩) (w1 := [(a0, .inr (5, [.ref a1, .ref a6, .ref a8, .ref a10, .int day, .int lim, .int low, .int hig, .int thr, .long off, .long cre, .long rcp, .long pay]))]) (w2 := wX4 cy a6 a7 Hsz Hla Hce ++ (wX4 cy a8 a9 Bsz Bla Bce ++ (wX6 cy a10 a11 Tma Tlc Ttc))) (w' := wX5 cy a0 a1 a2 a3 a4 a5 a6 a7 a8 a9 a10 a11 Asz Anu Aba Amo Aco Hsz Hla Hce Bsz Bla Bce Tma Tlc Ttc day lim low hig thr off cre rcp pay) rfl rfl hP hK hD hN hS hA (q0 := 0) rfl rfl rfl rfl hl rfl (Nat.le_of_ble_eq_true rfl) dX5_makeTransfer_68 ⟨Nat.zero_le _, Nat.zero_le _⟩ (fun H locs hP hD hS => ?_)
            refine lv_ldc hx hb hown wd3 dX5_makeTransfer_71 ?_
            refine lv_iload_n hx hb dX5_makeTransfer_73 rfl (lv_at hl 5 rfl) ?_
            refine lv_isub hx hb dX5_makeTransfer_74 ?_
            refine lv_icmp_le (tgt := 81) hx hb dX5_makeTransfer_75 (by decide) (fun c_16 => ?_) (fun c_16 => ?_)
            · have hf := x_t c_16 hf
              refine lv_aload_n hx hb dX5_makeTransfer_81 rfl (lv_at hl 2 rfl) ?_
              refine x_get hx hb (C := RX5) (T := TX5) (N := 13) (ci := 5) hts iX5 hown hK hP 0 rfl rfl 0 (by decide) wd0 rfl (.ref a1) rfl dX5_makeTransfer_82 ?_
              refine lv_iload hx hb dX5_makeTransfer_85 (lv_at hl 1 rfl) ?_
              refine lv_iload_n hx hb dX5_makeTransfer_87 rfl (lv_at hl 5 rfl) ?_
              refine lv_ineg hx hb dX5_makeTransfer_88 ?_
              obtain ⟨Aba_17, h_18, hf⟩ := bd1_el hf
              refine x_callVv (As := [.int r_1, .int (-p3)]) (rest := []) ⟨hx, hb, hml, hown, hts⟩ (mX0_add l D cy a1 a2 a3 a4 a5 Asz Anu Aba Amo Aco r_1 (-p3) Aba_17 h_18) (cwV 2 hts (gcV_X0_add hbg wm_8_17) rfl rfl rfl kdX0_add ⟨Nat.le_of_ble_eq_true rfl, Nat.le_of_ble_eq_true rfl⟩) (w1 := [(a0, .inr (5, [.ref a1, .ref a6, .ref a8, .ref a10, .int day, .int lim, .int low, .int hig, .int thr, .long off, .long cre, .long rcp, .long pay]))]) (w2 := wX4 cy a6 a7 Hsz Hla Hce ++ (wX4 cy a8 a9 Bsz Bla Bce ++ (wX6 cy a10 a11 Tma Tlc Ttc))) (w' := wX5 cy a0 a1 a2 a3 a4 a5 a6 a7 a8 a9 a10 a11 Asz Anu Aba_17 Amo Aco Hsz Hla Hce Bsz Bla Bce Tma Tlc Ttc day lim low hig thr off cre rcp pay) rfl rfl hP hK hD hN hS hA (q0 := 0) rfl rfl rfl rfl hl rfl (Nat.le_of_ble_eq_true rfl) dX5_makeTransfer_89 ⟨Nat.zero_le _, Nat.zero_le _⟩ (fun H locs hP hD hS => ?_)
              refine lv_aload_n hx hb dX5_makeTransfer_92 rfl (lv_at hl 2 rfl) ?_
              refine x_get hx hb (C := RX5) (T := TX5) (N := 13) (ci := 5) hts iX5 hown hK hP 0 rfl rfl 0 (by decide) wd0 rfl (.ref a1) rfl dX5_makeTransfer_93 ?_
              refine lv_iload hx hb dX5_makeTransfer_96 (lv_at hl 0 rfl) ?_
              refine lv_iload_n hx hb dX5_makeTransfer_98 rfl (lv_at hl 5 rfl) ?_
              obtain ⟨Aba_19, h_20, hf⟩ := bd1_el hf
              refine x_callVv (As := [.int r_3, .int p3]) (rest := []) ⟨hx, hb, hml, hown, hts⟩ (mX0_add l D cy a1 a2 a3 a4 a5 Asz Anu Aba_17 Amo Aco r_3 p3 Aba_19 h_20) (cwV 2 hts (gcV_X0_add hbg wm_8_17) rfl rfl rfl kdX0_add ⟨Nat.le_of_ble_eq_true rfl, Nat.le_of_ble_eq_true rfl⟩) (w1 := [(a0, .inr (5, [.ref a1, .ref a6, .ref a8, .ref a10, .int day, .int lim, .int low, .int hig, .int thr, .long off, .long cre, .long rcp, .long pay]))]) (w2 := wX4 cy a6 a7 Hsz Hla Hce ++ (wX4 cy a8 a9 Bsz Bla Bce ++ (wX6 cy a10 a11 Tma Tlc Ttc))) (w' := wX5 cy a0 a1 a2 a3 a4 a5 a6 a7 a8 a9 a10 a11 Asz Anu Aba_19 Amo Aco Hsz Hla Hce Bsz Bla Bce Tma Tlc Ttc day lim low hig thr off cre rcp pay) rfl rfl hP hK hD hN hS hA (q0 := 0) rfl rfl rfl rfl hl rfl (Nat.le_of_ble_eq_true rfl) dX5_makeTransfer_99 ⟨Nat.zero_le _, Nat.zero_le _⟩ (fun H locs hP hD hS => ?_)
              refine lv_aload_n hx hb dX5_makeTransfer_102 rfl (lv_at hl 2 rfl) ?_
              refine lv_iconst (v := 3) hx hb dX5_makeTransfer_103 (by decide) ?_
              refine lv_iload_n hx hb dX5_makeTransfer_104 rfl (lv_at hl 3 rfl) ?_
              refine lv_iload_n hx hb dX5_makeTransfer_105 rfl (lv_at hl 4 rfl) ?_
              refine lv_iload_n hx hb dX5_makeTransfer_106 rfl (lv_at hl 5 rfl) ?_
              obtain ⟨Amo_21, Tma_22, Tlc_23, Ttc_24, h_25, hf⟩ := bd4_el hf
              refine x_callVv (As := [.int 3, .int p1, .int p2, .int p3]) (rest := []) ⟨hx, hb, hml, hown, hts⟩ (mX5_enter l D cy a0 a1 a2 a3 a4 a5 a6 a7 a8 a9 a10 a11 Asz Anu Aba_19 Amo Aco Hsz Hla Hce Bsz Bla Bce Tma Tlc Ttc day lim low hig thr off cre rcp pay 3 p1 p2 p3 Amo_21 Tma_22 Tlc_23 Ttc_24 h_25) (cwV 4 hts (gcV_X5_enter hbg wm_8_21) rfl rfl rfl kdX5_enter ⟨Nat.le_of_ble_eq_true rfl, Nat.le_of_ble_eq_true rfl⟩) (w1 := []) (w2 := []) (w' := wX5 cy a0 a1 a2 a3 a4 a5 a6 a7 a8 a9 a10 a11 Asz Anu Aba_19 Amo_21 Aco Hsz Hla Hce Bsz Bla Bce Tma_22 Tlc_23 Ttc_24 day lim low hig thr off cre rcp pay) (List.append_nil _) (List.append_nil _) hP hK hD hN hS hA (q0 := 0) rfl rfl rfl rfl hl rfl (Nat.le_of_ble_eq_true rfl) dX5_makeTransfer_107 ⟨Nat.zero_le _, Nat.zero_le _⟩ (fun H locs hP hD hS => ?_)
              refine lv_aload_n hx hb dX5_makeTransfer_110 rfl (lv_at hl 2 rfl) ?_
              refine x_get hx hb (C := RX5) (T := TX5) (N := 13) (ci := 5) hts iX5 hown hK hP 0 rfl rfl 0 (by decide) wd0 rfl (.ref a1) rfl dX5_makeTransfer_111 ?_
              refine lv_iload hx hb dX5_makeTransfer_114 (lv_at hl 1 rfl) ?_
              obtain ⟨r_26, h_27, hf⟩ := bd1_el hf
              refine x_callVi (As := [.int r_1]) (rest := []) ⟨hx, hb, hml, hown, hts⟩ (mX0_balanceAt l D cy a1 a2 a3 a4 a5 Asz Anu Aba_19 Amo_21 Aco r_1 r_26 h_27) (cwV 1 hts (gcV_X0_balanceAt hbg wm_8_13) rfl rfl rfl kdX0_balanceAt ⟨Nat.le_of_ble_eq_true rfl, Nat.le_of_ble_eq_true rfl⟩) (w1 := [(a0, .inr (5, [.ref a1, .ref a6, .ref a8, .ref a10, .int day, .int lim, .int low, .int hig, .int thr, .long off, .long cre, .long rcp, .long pay]))]) (w2 := wX4 cy a6 a7 Hsz Hla Hce ++ (wX4 cy a8 a9 Bsz Bla Bce ++ (wX6 cy a10 a11 Tma_22 Tlc_23 Ttc_24))) (w' := wX5 cy a0 a1 a2 a3 a4 a5 a6 a7 a8 a9 a10 a11 Asz Anu Aba_19 Amo_21 Aco Hsz Hla Hce Bsz Bla Bce Tma_22 Tlc_23 Ttc_24 day lim low hig thr off cre rcp pay) rfl rfl hP hK hD hN hS hA (q0 := 0) rfl rfl rfl rfl hl rfl (Nat.le_of_ble_eq_true rfl) dX5_makeTransfer_116 ⟨Nat.zero_le _, Nat.zero_le _⟩ (fun H locs hP hD hS => ?_)
              have hf := Option.some.inj hf
              cases hf
              exact x_iret hx hb hr hlocks hK hP hD hS dX5_makeTransfer_119
            · have hf := x_f c_16 hf
              refine lv_bipush (v := (-4)) hx hb dX5_makeTransfer_78 (by decide) ?_
              have hf := Option.some.inj hf
              cases hf
              exact x_iret hx hb hr hlocks hK hP hD hS dX5_makeTransfer_80
          · have hf := x_f c_13 hf
            refine lv_bipush (v := (-3)) hx hb dX5_makeTransfer_59 (by decide) ?_
            have hf := Option.some.inj hf
            cases hf
            exact x_iret hx hb hr hlocks hK hP hD hS dX5_makeTransfer_61
        · have hf := x_t c_10 hf
          refine lv_bipush (v := (-2)) hx hb dX5_makeTransfer_46 (by decide) ?_
          have hf := Option.some.inj hf
          cases hf
          exact x_iret hx hb hr hlocks hK hP hD hS dX5_makeTransfer_48
    · have hf := x_f c_6 hf
      refine lv_iconst (v := (-1)) hx hb dX5_makeTransfer_30 (by decide) ?_
      have hf := Option.some.inj hf
      cases hf
      exact x_iret hx hb hr hlocks hK hP hD hS dX5_makeTransfer_31
theorem kdX5_makeHold : yX5_makeHold.cls = RX5 ∧ yX5_makeHold.cls ≠ "java/lang/invoke/MethodHandle" ∧ yX5_makeHold.cls ≠ "java/lang/invoke/VarHandle" ∧ (parseMethodDescriptor yX5_makeHold.desc).map (fun d => d.parameters.length) = some 3 := by decide +kernel
def rmX5_makeHold : Room := { frames := 3, cells := 0, slots := 0, locals := 67 }
set_option maxHeartbeats 4000000 in
set_option maxRecDepth 100000 in
theorem mX5_makeHold (l : Launch) (D : va_G) (cy : Nat → ClassId) (a0 a1 a2 a3 a4 a5 a6 a7 a8 a9 a10 a11 : Nat) (Asz : Int32) (Anu : Nat → Int32) (Aba : Nat → Int32) (Amo : Nat → Int32) (Aco : Nat → Int64) (Hsz : Int32) (Hla : Int32) (Hce : Nat → Int32) (Bsz : Int32) (Bla : Int32) (Bce : Nat → Int32) (Tma : Int32) (Tlc : Int32) (Ttc : Nat → Int32) (day : Int32) (lim : Int32) (low : Int32) (hig : Int32) (thr : Int32) (off : Int64) (cre : Int64) (rcp : Int64) (pay : Int64) (p1 : Int32) (p2 : Int32) (p3 : Int32) (r : Int32) (Hsz' : Int32) (Hla' : Int32) (Hce' : Nat → Int32) (hf : fX5_makeHold Asz Anu Aba Hsz Hla Hce day p1 p2 p3 = some (r, Hsz', Hla', Hce')) : xMi l D cy yX5_makeHold aX5_makeHold rmX5_makeHold ([.ref a0, .int p1, .int p2, .int p3] : List Value) (wX5 cy a0 a1 a2 a3 a4 a5 a6 a7 a8 a9 a10 a11 Asz Anu Aba Amo Aco Hsz Hla Hce Bsz Bla Bce Tma Tlc Ttc day lim low hig thr off cre rcp pay) (wX5 cy a0 a1 a2 a3 a4 a5 a6 a7 a8 a9 a10 a11 Asz Anu Aba Amo Aco Hsz' Hla' Hce' Bsz Bla Bce Tma Tlc Ttc day lim low hig thr off cre rcp pay) r := by
  intro hz
  refine x_start (Qc := xQi D cy _ r) (cc := cX5_makeHold) (maxL := 5) (ret := (some .int)) (by decide) rfl (Nat.le_of_ble_eq_true rfl) (lv := [(0, .ref a0), (1, .int p1), (2, .int p2), (3, .int p3)]) rfl ?_
  intro p e s m below meth c ls A hx hb hr hml hown hts hlocks hK hP hD hS hA hN hl
  have hown : s.vm.findClass RX5 = some m.cls := hown
  have hbg : ∀ w ∈ wsL_law, w ∈ aX5_makeHold := fun w h => List.mem_cons_of_mem _ h
  have wd0 : (Cond.fieldLink RX5 12 "ClientMoneyBook$State" "accounts" "LClientMoneyBook$Accounts;").before ([.ref a0, .int p1, .int p2, .int p3] : List Value).toArray s = true := hts _ (List.mem_cons_of_mem _ wm_1_20)
  have wd1 : (Cond.initialized RX7).before ([.ref a0, .int p1, .int p2, .int p3] : List Value).toArray s = true := hts _ (List.mem_cons_of_mem _ wm_0_2)
  have wd2 : (Cond.static yX7_isAmount).before ([.ref a0, .int p1, .int p2, .int p3] : List Value).toArray s = true := hts _ (List.mem_cons_of_mem _ wm_8_10)
  have wd3 : (Cond.fieldLink RX5 21 "ClientMoneyBook$State" "holds" "LClientMoneyBook$Rows;").before ([.ref a0, .int p1, .int p2, .int p3] : List Value).toArray s = true := hts _ (List.mem_cons_of_mem _ wm_2_0)
  have wd4 : (Cond.fieldLink RX5 111 "ClientMoneyBook$Rows" "size" "I").before ([.ref a0, .int p1, .int p2, .int p3] : List Value).toArray s = true := hts _ (List.mem_cons_of_mem _ wm_12_2)
  have wd5 : (Cond.fieldLink RX5 35 "ClientMoneyBook$State" "day" "I").before ([.ref a0, .int p1, .int p2, .int p3] : List Value).toArray s = true := hts _ (List.mem_cons_of_mem _ wm_2_6)
  have iX4 : ∀ w ∈ u_ws RX4 TX4 3, w ∈ aX5_makeHold := fun w h => List.mem_cons_of_mem _ (inlX4 w h)
  have iX5 : ∀ w ∈ u_ws RX5 TX5 13, w ∈ aX5_makeHold := fun w h => List.mem_cons_of_mem _ (inlX5 w h)
  unfold fX5_makeHold at hf
  refine lv_aload_n hx hb dX5_makeHold_0 rfl (lv_at hl 0 rfl) ?_
  refine x_get hx hb (C := RX5) (T := TX5) (N := 13) (ci := 5) hts iX5 hown hK hP 0 rfl rfl 0 (by decide) wd0 rfl (.ref a1) rfl dX5_makeHold_1 ?_
  refine lv_iload_n hx hb dX5_makeHold_4 rfl (lv_at hl 1 rfl) ?_
  obtain ⟨r_1, h_2, hf⟩ := bd1_el hf
  refine x_callVi (As := [.int p1]) (rest := []) ⟨hx, hb, hml, hown, hts⟩ (mX0_find l D cy a1 a2 a3 a4 a5 Asz Anu Aba Amo Aco p1 r_1 h_2) (cwV 1 hts (gcV_X0_find hbg wm_6_14) rfl rfl rfl kdX0_find ⟨Nat.le_of_ble_eq_true rfl, Nat.le_of_ble_eq_true rfl⟩) (w1 := [(a0, .inr (5, [.ref a1, .ref a6, .ref a8, .ref a10, .int day, .int lim, .int low, .int hig, .int thr, .long off, .long cre, .long rcp, .long pay]))]) (w2 := wX4 cy a6 a7 Hsz Hla Hce ++ (wX4 cy a8 a9 Bsz Bla Bce ++ (wX6 cy a10 a11 Tma Tlc Ttc))) (w' := wX5 cy a0 a1 a2 a3 a4 a5 a6 a7 a8 a9 a10 a11 Asz Anu Aba Amo Aco Hsz Hla Hce Bsz Bla Bce Tma Tlc Ttc day lim low hig thr off cre rcp pay) rfl rfl hP hK hD hN hS hA (q0 := 0) rfl rfl rfl rfl hl rfl (Nat.le_of_ble_eq_true rfl) dX5_makeHold_5 ⟨Nat.zero_le _, Nat.zero_le _⟩ (fun H locs hP hD hS => ?_)
  refine lv_istore (lv' := [(4, .int r_1), (0, .ref a0), (1, .int p1), (2, .int p2), (3, .int p3)]) hx hb dX5_makeHold_8 hl (by decide) rfl (fun ls hl => ?_)
  refine lv_iload hx hb dX5_makeHold_10 (lv_at hl 0 rfl) ?_
  refine lv_if_ge (tgt := 17) hx hb dX5_makeHold_12 (by decide) (fun c_3 => ?_) (fun c_3 => ?_)
  · have hf := x_t c_3 hf
    refine lv_iload_n hx hb dX5_makeHold_17 rfl (lv_at hl 3 rfl) ?_
    obtain ⟨r_4, h_5, hf⟩ := bd1_el hf
    refine x_callNi (As := [.int p2]) (rest := []) ⟨hx, hb, hml, hown, hts⟩ (mX7_isAmount l D cy   p2 r_4 h_5) ⟨va_cnB 1 hts (gcB_X7_isAmount hbg) rfl rfl rfl (nb_use hN 0 rfl) wd1 kdX7_isAmount ⟨Nat.le_of_ble_eq_true rfl, Nat.le_of_ble_eq_true rfl⟩, wd2, trivial⟩ (w1 := []) (w2 := wX5 cy a0 a1 a2 a3 a4 a5 a6 a7 a8 a9 a10 a11 Asz Anu Aba Amo Aco Hsz Hla Hce Bsz Bla Bce Tma Tlc Ttc day lim low hig thr off cre rcp pay) (w' := wX5 cy a0 a1 a2 a3 a4 a5 a6 a7 a8 a9 a10 a11 Asz Anu Aba Amo Aco Hsz Hla Hce Bsz Bla Bce Tma Tlc Ttc day lim low hig thr off cre rcp pay) rfl rfl hP hK hD hN hS hA rfl hl rfl (Nat.le_of_ble_eq_true rfl) dX5_makeHold_18 ⟨Nat.zero_le _, Nat.zero_le _⟩ (fun H locs hP hD hS => ?_)
    refine lv_if_eq (tgt := 36) hx hb dX5_makeHold_21 (by decide) (fun c_6 => ?_) (fun c_6 => ?_)
    · have hf := x_t c_6 hf
      refine lv_bipush (v := (-2)) hx hb dX5_makeHold_36 (by decide) ?_
      have hf := Option.some.inj hf
      cases hf
      exact x_iret hx hb hr hlocks hK hP hD hS dX5_makeHold_38
    · have hf := x_f c_6 hf
      refine lv_iload_n hx hb dX5_makeHold_24 rfl (lv_at hl 4 rfl) ?_
      refine lv_iconst (v := 1) hx hb dX5_makeHold_25 (by decide) ?_
      refine lv_icmp_lt (tgt := 36) hx hb dX5_makeHold_26 (by decide) (fun c_7 => ?_) (fun c_7 => ?_)
      · have hf := x_t c_7 hf
        refine lv_bipush (v := (-2)) hx hb dX5_makeHold_36 (by decide) ?_
        have hf := Option.some.inj hf
        cases hf
        exact x_iret hx hb hr hlocks hK hP hD hS dX5_makeHold_38
      · have hf := x_f c_7 hf
        refine lv_iload_n hx hb dX5_makeHold_29 rfl (lv_at hl 4 rfl) ?_
        refine lv_sipush (v := 999) hx hb dX5_makeHold_30 (by decide) ?_
        refine lv_icmp_le (tgt := 39) hx hb dX5_makeHold_33 (by decide) (fun c_8 => ?_) (fun c_8 => ?_)
        · have hf := x_t c_8 hf
          refine lv_aload_n hx hb dX5_makeHold_39 rfl (lv_at hl 1 rfl) ?_
          refine lv_iload hx hb dX5_makeHold_40 (lv_at hl 0 rfl) ?_
          obtain ⟨r_9, h_10, hf⟩ := bd1_el hf
          refine x_callVi (As := [.int r_1]) (rest := []) ⟨hx, hb, hml, hown, hts⟩ (mX5_freeAt l D cy a0 a1 a2 a3 a4 a5 a6 a7 a8 a9 a10 a11 Asz Anu Aba Amo Aco Hsz Hla Hce Bsz Bla Bce Tma Tlc Ttc day lim low hig thr off cre rcp pay r_1 r_9 h_10) (cwV 1 hts (gcV_X5_freeAt hbg wm_10_21) rfl rfl rfl kdX5_freeAt ⟨Nat.le_of_ble_eq_true rfl, Nat.le_of_ble_eq_true rfl⟩) (w1 := []) (w2 := []) (w' := wX5 cy a0 a1 a2 a3 a4 a5 a6 a7 a8 a9 a10 a11 Asz Anu Aba Amo Aco Hsz Hla Hce Bsz Bla Bce Tma Tlc Ttc day lim low hig thr off cre rcp pay) (List.append_nil _) (List.append_nil _) hP hK hD hN hS hA (q0 := 0) rfl rfl rfl rfl hl rfl (Nat.le_of_ble_eq_true rfl) dX5_makeHold_42 ⟨Nat.zero_le _, Nat.zero_le _⟩ (fun H locs hP hD hS => ?_)
          refine lv_iload_n hx hb dX5_makeHold_45 rfl (lv_at hl 3 rfl) ?_
          refine lv_icmp_ge (tgt := 52) hx hb dX5_makeHold_46 (by decide) (fun c_11 => ?_) (fun c_11 => ?_)
          · have hf := x_t c_11 hf
            refine lv_aload_n hx hb dX5_makeHold_52 rfl (lv_at hl 1 rfl) ?_
            refine x_get hx hb (C := RX5) (T := TX5) (N := 13) (ci := 5) hts iX5 hown hK hP 0 rfl rfl 1 (by decide) wd3 rfl (.ref a6) rfl dX5_makeHold_53 ?_
            refine x_get hx hb (C := RX4) (T := TX4) (N := 3) (ci := 4) hts iX4 hown hK hP 6 rfl rfl 0 (by decide) wd4 rfl (.int Hsz) rfl dX5_makeHold_56 ?_
            refine lv_bipush (v := 15) hx hb dX5_makeHold_59 (by decide) ?_
            refine lv_icmp_lt (tgt := 67) hx hb dX5_makeHold_61 (by decide) (fun c_12 => ?_) (fun c_12 => ?_)
            · have hf := x_t c_12 hf
              refine lv_aload_n hx hb dX5_makeHold_67 rfl (lv_at hl 1 rfl) ?_
              refine x_get hx hb (C := RX5) (T := TX5) (N := 13) (ci := 5) hts iX5 hown hK hP 0 rfl rfl 1 (by decide) wd3 rfl (.ref a6) rfl dX5_makeHold_68 ?_
              refine lv_iload_n hx hb dX5_makeHold_71 rfl (lv_at hl 2 rfl) ?_
              refine lv_iload_n hx hb dX5_makeHold_72 rfl (lv_at hl 3 rfl) ?_
              refine lv_aload_n hx hb dX5_makeHold_73 rfl (lv_at hl 1 rfl) ?_
              refine x_get hx hb (C := RX5) (T := TX5) (N := 13) (ci := 5) hts iX5 hown hK hP 0 rfl rfl 4 (by decide) wd5 rfl (.int day) rfl dX5_makeHold_74 ?_
              refine lv_iload_n hx hb dX5_makeHold_77 rfl (lv_at hl 4 rfl) ?_
              refine lv_iadd hx hb dX5_makeHold_78 ?_
              obtain ⟨r_13, Hsz_14, Hla_15, Hce_16, h_17, hf⟩ := bd4_el hf
              refine x_callVi (As := [.int p1, .int p2, .int (day + p3)]) (rest := []) ⟨hx, hb, hml, hown, hts⟩ (mX4_append l D cy a6 a7 Hsz Hla Hce p1 p2 (day + p3) r_13 Hsz_14 Hla_15 Hce_16 h_17) (cwV 3 hts (gcV_X4_append hbg wm_12_3) rfl rfl rfl kdX4_append ⟨Nat.le_of_ble_eq_true rfl, Nat.le_of_ble_eq_true rfl⟩) (w1 := [(a0, .inr (5, [.ref a1, .ref a6, .ref a8, .ref a10, .int day, .int lim, .int low, .int hig, .int thr, .long off, .long cre, .long rcp, .long pay]))] ++ (wX0 cy a1 a2 a3 a4 a5 Asz Anu Aba Amo Aco)) (w2 := wX4 cy a8 a9 Bsz Bla Bce ++ (wX6 cy a10 a11 Tma Tlc Ttc)) (w' := wX5 cy a0 a1 a2 a3 a4 a5 a6 a7 a8 a9 a10 a11 Asz Anu Aba Amo Aco Hsz_14 Hla_15 Hce_16 Bsz Bla Bce Tma Tlc Ttc day lim low hig thr off cre rcp pay) rfl rfl hP hK hD hN hS hA (q0 := 0) rfl rfl rfl rfl hl rfl (Nat.le_of_ble_eq_true rfl) dX5_makeHold_79 ⟨Nat.zero_le _, Nat.zero_le _⟩ (fun H locs hP hD hS => ?_)
              have hf := Option.some.inj hf
              cases hf
              exact x_iret hx hb hr hlocks hK hP hD hS dX5_makeHold_82
            · have hf := x_f c_12 hf
              refine lv_bipush (v := (-4)) hx hb dX5_makeHold_64 (by decide) ?_
              have hf := Option.some.inj hf
              cases hf
              exact x_iret hx hb hr hlocks hK hP hD hS dX5_makeHold_66
          · have hf := x_f c_11 hf
            refine lv_bipush (v := (-3)) hx hb dX5_makeHold_49 (by decide) ?_
            have hf := Option.some.inj hf
            cases hf
            exact x_iret hx hb hr hlocks hK hP hD hS dX5_makeHold_51
        · have hf := x_f c_8 hf
          refine lv_bipush (v := (-2)) hx hb dX5_makeHold_36 (by decide) ?_
          have hf := Option.some.inj hf
          cases hf
          exact x_iret hx hb hr hlocks hK hP hD hS dX5_makeHold_38
  · have hf := x_f c_3 hf
    refine lv_iconst (v := (-1)) hx hb dX5_makeHold_15 (by decide) ?_
    have hf := Option.some.inj hf
    cases hf
    exact x_iret hx hb hr hlocks hK hP hD hS dX5_makeHold_16
