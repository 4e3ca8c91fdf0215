theorem kdX7_undo : yX7_undo.cls = RX7 ∧ yX7_undo.cls ≠ "java/lang/invoke/MethodHandle" ∧ yX7_undo.cls ≠ "java/lang/invoke/VarHandle" ∧ (parseMethodDescriptor yX7_undo.desc).map (fun d => d.parameters.length) = some 0 := by decide +kernel
def rmX7_undo : Room := { frames := 4, cells := 0, slots := 0, locals := 112 }
set_option maxHeartbeats 4000000 in
set_option maxRecDepth 100000 in
theorem mX7_undo (l : Launch) (D : va_G) (cy : Nat → ClassId) (a0 t0 t1 k0 k1 k2 s0 s1 s2 s3 s4 s5 s6 s7 s8 s9 s10 s11 : Nat) (hd : Nat → Nat) (Xle : Int32) (Xch : Nat → Int32) (Xpo : Int32) (Xltr : Int32) (Xfi : Int32) (Xse : Int32) (Xth : Int32) (Ksz : Int32) (Kcl : Nat → Int32) (Kke : Nat → Int32) (Asz : Int32) (Anu : Nat → Int32) (Aba : Nat → Int32) (Amo : Nat → Int32) (Aco : Nat → Int64) (Hsz : Int32) (Hla : Int32) (Hce : Nat → Int32) (Bsz : Int32) (Bla : Int32) (Bce : Nat → Int32) (Tma : Int32) (Tlc : Int32) (Ttc : Nat → Int32) (day : Int32) (lim : Int32) (low : Int32) (hig : Int32) (thr : Int32) (off : Int64) (cre : Int64) (rcp : Int64) (pay : Int64) (sv : Int32) (nx : Int32) (SL : Nat → XS)  (r : Int32) (Asz' : Int32) (Anu' : Nat → Int32) (Aba' : Nat → Int32) (Amo' : Nat → Int32) (Aco' : Nat → Int64) (Hsz' : Int32) (Hla' : Int32) (Hce' : Nat → Int32) (Bsz' : Int32) (Bla' : Int32) (Bce' : Nat → Int32) (Tma' : Int32) (Tlc' : Int32) (Ttc' : Nat → Int32) (day' : Int32) (lim' : Int32) (low' : Int32) (hig' : Int32) (thr' : Int32) (off' : Int64) (cre' : Int64) (rcp' : Int64) (pay' : Int64) (sv' : Int32) (nx' : Int32) (hf : fX7_undo Asz Anu Aba Amo Aco Hsz Hla Hce Bsz Bla Bce Tma Tlc Ttc day lim low hig thr off cre rcp pay sv nx SL = some (r, Asz', Anu', Aba', Amo', Aco', Hsz', Hla', Hce', Bsz', Bla', Bce', Tma', Tlc', Ttc', day', lim', low', hig', thr', off', cre', rcp', pay', sv', nx')) : xMi l D cy yX7_undo aX7_undo rmX7_undo ([.ref a0] : List Value) (wX7 cy a0 t0 t1 k0 k1 k2 s0 s1 s2 s3 s4 s5 s6 s7 s8 s9 s10 s11 hd Xle Xch Xpo Xltr Xfi Xse Xth Ksz Kcl Kke Asz Anu Aba Amo Aco Hsz Hla Hce Bsz Bla Bce Tma Tlc Ttc day lim low hig thr off cre rcp pay sv nx SL) (wX7 cy a0 t0 t1 k0 k1 k2 s0 s1 s2 s3 s4 s5 s6 s7 s8 s9 s10 s11 hd Xle Xch Xpo Xltr Xfi Xse Xth Ksz Kcl Kke Asz' Anu' Aba' Amo' Aco' Hsz' Hla' Hce' Bsz' Bla' Bce' Tma' Tlc' Ttc' day' lim' low' hig' thr' off' cre' rcp' pay' sv' nx' SL) r := by
  intro hz
  refine x_start (Qc := xQi D cy _ r) (cc := cX7_undo) (maxL := 1) (ret := (some .int)) (by decide) rfl (Nat.le_of_ble_eq_true rfl) (lv := [(0, .ref a0)]) rfl ?_
  intro p e s m below meth c ls A hx hb hr hml hown hts hlocks hK hP hD hS hA hN hl
  have hown : s.vm.findClass RX7 = some m.cls := hown
  have hbg : ∀ w ∈ wsL_law, w ∈ aX7_undo := fun w h => List.mem_cons_of_mem _ h
  have wd0 : (Cond.fieldLink RX7 19 "ClientMoneyBook" "history" "LClientMoneyBook$History;").before ([.ref a0] : List Value).toArray s = true := hts _ (List.mem_cons_of_mem _ wm_0_19)
  have wd1 : (Cond.fieldLink RX7 200 "ClientMoneyBook$History" "saved" "I").before ([.ref a0] : List Value).toArray s = true := hts _ (List.mem_cons_of_mem _ wm_42_2)
  have wd2 : (Cond.fieldLink RX7 10 "ClientMoneyBook" "state" "LClientMoneyBook$State;").before ([.ref a0] : List Value).toArray s = true := hts _ (List.mem_cons_of_mem _ wm_0_15)
  have iX1 : ∀ w ∈ u_ws RX1 TX1 3, w ∈ aX7_undo := fun w h => List.mem_cons_of_mem _ (inlX1 w h)
  have iX7 : ∀ w ∈ u_ws RX7 TX7 4, w ∈ aX7_undo := fun w h => List.mem_cons_of_mem _ (inlX7 w h)
  unfold fX7_undo at hf
  refine lv_aload_n hx hb dX7_undo_0 rfl (lv_at hl 0 rfl) ?_
  refine x_get hx hb (C := RX7) (T := TX7) (N := 4) (ci := 7) hts iX7 hown hK hP 0 rfl rfl 1 (by decide) wd0 rfl (.ref (hd 0)) rfl dX7_undo_1 ?_
  refine x_get hx hb (C := RX1) (T := TX1) (N := 3) (ci := 1) hts iX1 hown hK hP 18 rfl rfl 0 (by decide) wd1 rfl (.int sv) rfl dX7_undo_4 ?_
  refine lv_if_ne (tgt := 13) hx hb dX7_undo_7 (by decide) (fun c_1 => ?_) (fun c_1 => ?_)
  · have hf := x_f c_1 hf
    refine lv_aload_n hx hb dX7_undo_13 rfl (lv_at hl 0 rfl) ?_
    refine x_get hx hb (C := RX7) (T := TX7) (N := 4) (ci := 7) hts iX7 hown hK hP 0 rfl rfl 1 (by decide) wd0 rfl (.ref (hd 0)) rfl dX7_undo_14 ?_
    refine lv_aload_n hx hb dX7_undo_17 rfl (lv_at hl 0 rfl) ?_
    refine x_get hx hb (C := RX7) (T := TX7) (N := 4) (ci := 7) hts iX7 hown hK hP 0 rfl rfl 0 (by decide) wd2 rfl (.ref s0) rfl dX7_undo_18 ?_
    obtain ⟨r_2, Asz_3, Anu_4, Aba_5, Amo_6, Aco_7, Hsz_8, Hla_9, Hce_10, Bsz_11, Bla_12, Bce_13, Tma_14, Tlc_15, Ttc_16, day_17, lim_18, low_19, hig_20, thr_21, off_22, cre_23, rcp_24, pay_25, sv_26, nx_27, h_28, hf⟩ := bd26_el hf
    refine x_callVi (As := [.ref s0]) (rest := []) ⟨hx, hb, hml, hown, hts⟩ (mX1_restoreLatest l D cy s0 s1 s2 s3 s4 s5 s6 s7 s8 s9 s10 s11 hd Asz Anu Aba Amo Aco Hsz Hla Hce Bsz Bla Bce Tma Tlc Ttc day lim low hig thr off cre rcp pay sv nx SL  r_2 Asz_3 Anu_4 Aba_5 Amo_6 Aco_7 Hsz_8 Hla_9 Hce_10 Bsz_11 Bla_12 Bce_13 Tma_14 Tlc_15 Ttc_16 day_17 lim_18 low_19 hig_20 thr_21 off_22 cre_23 rcp_24 pay_25 sv_26 nx_27 h_28) (cwV 1 hts (gcV_X1_restoreLatest hbg wm_42_3) rfl rfl rfl kdX1_restoreLatest ⟨Nat.le_of_ble_eq_true rfl, Nat.le_of_ble_eq_true rfl⟩) (w1 := [(a0, .inr (7, [.ref s0, .ref (hd 0), .ref t0, .ref k0]))] ++ (wX2 cy t0 t1 Xle Xch Xpo Xltr Xfi Xse Xth ++ (wX3 cy k0 k1 k2 Ksz Kcl Kke))) (w2 := []) (w' := wX7 cy a0 t0 t1 k0 k1 k2 s0 s1 s2 s3 s4 s5 s6 s7 s8 s9 s10 s11 hd Xle Xch Xpo Xltr Xfi Xse Xth Ksz Kcl Kke Asz_3 Anu_4 Aba_5 Amo_6 Aco_7 Hsz_8 Hla_9 Hce_10 Bsz_11 Bla_12 Bce_13 Tma_14 Tlc_15 Ttc_16 day_17 lim_18 low_19 hig_20 thr_21 off_22 cre_23 rcp_24 pay_25 sv_26 nx_27 SL) (x_end rfl) (x_end rfl) hP hK hD hN hS hA (q0 := 12) rfl rfl rfl rfl hl rfl (Nat.le_of_ble_eq_true rfl) dX7_undo_21 ⟨Nat.zero_le _, Nat.zero_le _⟩ (fun H locs hP hD hS => ?_)
    have hf := Option.some.inj hf
    cases hf
    exact x_iret hx hb hr hlocks hK hP hD hS dX7_undo_24
  · have hf := x_t c_1 hf
    refine lv_bipush (v := (-3)) hx hb dX7_undo_10 (by decide) ?_
    have hf := Option.some.inj hf
    cases hf
    exact x_iret hx hb hr hlocks hK hP hD hS dX7_undo_12
theorem kdX7_hashOfClients : yX7_hashOfClients.cls = RX7 ∧ yX7_hashOfClients.cls ≠ "java/lang/invoke/MethodHandle" ∧ yX7_hashOfClients.cls ≠ "java/lang/invoke/VarHandle" ∧ (parseMethodDescriptor yX7_hashOfClients.desc).map (fun d => d.parameters.length) = some 1 := by decide +kernel
def rmX7_hashOfClients : Room := { frames := 4, cells := 0, slots := 0, locals := 90 }
set_option maxHeartbeats 4000000 in
set_option maxRecDepth 100000 in
theorem mX7_hashOfClients (l : Launch) (D : va_G) (cy : Nat → ClassId) (a0 t0 t1 k0 k1 k2 s0 s1 s2 s3 s4 s5 s6 s7 s8 s9 s10 s11 : Nat) (hd : Nat → Nat) (Xle : Int32) (Xch : Nat → Int32) (Xpo : Int32) (Xltr : Int32) (Xfi : Int32) (Xse : Int32) (Xth : Int32) (Ksz : Int32) (Kcl : Nat → Int32) (Kke : Nat → Int32) (Asz : Int32) (Anu : Nat → Int32) (Aba : Nat → Int32) (Amo : Nat → Int32) (Aco : Nat → Int64) (Hsz : Int32) (Hla : Int32) (Hce : Nat → Int32) (Bsz : Int32) (Bla : Int32) (Bce : Nat → Int32) (Tma : Int32) (Tlc : Int32) (Ttc : Nat → Int32) (day : Int32) (lim : Int32) (low : Int32) (hig : Int32) (thr : Int32) (off : Int64) (cre : Int64) (rcp : Int64) (pay : Int64) (sv : Int32) (nx : Int32) (SL : Nat → XS) (p1 : Int64) (r : Int64) (hf : fX7_hashOfClients Asz Anu Aba Amo Aco Hsz Hce Bsz Bce p1 = some r) : xMl l D cy yX7_hashOfClients aX7_hashOfClients rmX7_hashOfClients ([.ref a0, .long p1] : List Value) (wX7 cy a0 t0 t1 k0 k1 k2 s0 s1 s2 s3 s4 s5 s6 s7 s8 s9 s10 s11 hd Xle Xch Xpo Xltr Xfi Xse Xth Ksz Kcl Kke Asz Anu Aba Amo Aco Hsz Hla Hce Bsz Bla Bce Tma Tlc Ttc day lim low hig thr off cre rcp pay sv nx SL) (wX7 cy a0 t0 t1 k0 k1 k2 s0 s1 s2 s3 s4 s5 s6 s7 s8 s9 s10 s11 hd Xle Xch Xpo Xltr Xfi Xse Xth Ksz Kcl Kke Asz Anu Aba Amo Aco Hsz Hla Hce Bsz Bla Bce Tma Tlc Ttc day lim low hig thr off cre rcp pay sv nx SL) r := by
  intro hz
  refine x_start (Qc := xQl D cy _ r) (cc := cX7_hashOfClients) (maxL := 7) (ret := (some .long)) (by decide) rfl (Nat.le_of_ble_eq_true rfl) (lv := [(0, .ref a0), (1, .long p1)]) rfl ?_
  intro p e s m below meth c ls A hx hb hr hml hown hts hlocks hK hP hD hS hA hN hl
  have hown : s.vm.findClass RX7 = some m.cls := hown
  have hbg : ∀ w ∈ wsL_law, w ∈ aX7_hashOfClients := fun w h => List.mem_cons_of_mem _ h
  have wd0 : (Cond.fieldLink RX7 10 "ClientMoneyBook" "state" "LClientMoneyBook$State;").before ([.ref a0, .long p1] : List Value).toArray s = true := hts _ (List.mem_cons_of_mem _ wm_0_15)
  have wd1 : (Cond.fieldLink RX7 94 "ClientMoneyBook$State" "accounts" "LClientMoneyBook$Accounts;").before ([.ref a0, .long p1] : List Value).toArray s = true := hts _ (List.mem_cons_of_mem _ wm_26_15)
  have wd2 : (Cond.fieldLink RX7 98 "ClientMoneyBook$Accounts" "size" "I").before ([.ref a0, .long p1] : List Value).toArray s = true := hts _ (List.mem_cons_of_mem _ wm_26_16)
  have wd3 : (Cond.constantLong RX7 209 (31)).before ([.ref a0, .long p1] : List Value).toArray s = true := hts _ (List.mem_cons_of_mem _ wm_42_16)
  have iX0 : ∀ w ∈ u_ws RX0 TX0 5, w ∈ aX7_hashOfClients := fun w h => List.mem_cons_of_mem _ (inlX0 w h)
  have iX5 : ∀ w ∈ u_ws RX5 TX5 13, w ∈ aX7_hashOfClients := fun w h => List.mem_cons_of_mem _ (inlX5 w h)
  have iX7 : ∀ w ∈ u_ws RX7 TX7 4, w ∈ aX7_hashOfClients := fun w h => List.mem_cons_of_mem _ (inlX7 w h)
  unfold fX7_hashOfClients at hf
  refine lv_lload_n hx hb dX7_hashOfClients_0 rfl (lv_at hl 1 rfl) ?_
  refine lv_lstore_n (lv' := [(3, .long p1), (0, .ref a0), (1, .long p1)]) hx hb dX7_hashOfClients_1 rfl hl (by decide) rfl (fun ls hl => ?_)
  refine lv_iconst (v := 0) hx hb dX7_hashOfClients_2 (by decide) ?_
  refine lv_istore (lv' := [(5, .int 0), (3, .long p1), (0, .ref a0), (1, .long p1)]) hx hb dX7_hashOfClients_3 hl (by decide) rfl (fun ls hl => ?_)
  have hL_5 : ∀ (n : Nat) (z3_11 : Int64) (z5_12 : Int32) (o : Int64) (H : Heap) (locs : List Loc) (ls : Array Slot), fX7_hashOfClients_L5 Asz Anu Aba Amo Aco Hsz Hce Bsz Bce n z3_11 z5_12 = some o → va_P D vwCl (wX7 cy a0 t0 t1 k0 k1 k2 s0 s1 s2 s3 s4 s5 s6 s7 s8 s9 s10 s11 hd Xle Xch Xpo Xltr Xfi Xse Xth Ksz Kcl Kke Asz Anu Aba Amo Aco Hsz Hla Hce Bsz Bla Bce Tma Tlc Ttc day lim low hig thr off cre rcp pay sv nx SL) H → va_D A (wX7 cy a0 t0 t1 k0 k1 k2 s0 s1 s2 s3 s4 s5 s6 s7 s8 s9 s10 s11 hd Xle Xch Xpo Xltr Xfi Xse Xth Ksz Kcl Kke Asz Anu Aba Amo Aco Hsz Hla Hce Bsz Bla Bce Tma Tlc Ttc day lim low hig thr off cre rcp pay sv nx SL) → va_S A s.heap H locs → lv_has ls 7 [(0, .ref a0), (3, .long z3_11), (5, .int z5_12)] → True → ((∀ (x3_13 : Int64) , o = x3_13 → ∀ (H : Heap) (locs : List Loc) (ls : Array Slot), va_P D vwCl (wX7 cy a0 t0 t1 k0 k1 k2 s0 s1 s2 s3 s4 s5 s6 s7 s8 s9 s10 s11 hd Xle Xch Xpo Xltr Xfi Xse Xth Ksz Kcl Kke Asz Anu Aba Amo Aco Hsz Hla Hce Bsz Bla Bce Tma Tlc Ttc day lim low hig thr off cre rcp pay sv nx SL) H → va_D A (wX7 cy a0 t0 t1 k0 k1 k2 s0 s1 s2 s3 s4 s5 s6 s7 s8 s9 s10 s11 hd Xle Xch Xpo Xltr Xfi Xse Xth Ksz Kcl Kke Asz Anu Aba Amo Aco Hsz Hla Hce Bsz Bla Bce Tma Tlc Ttc day lim low hig thr off cre rcp pay sv nx SL) → va_S A s.heap H locs → lv_has ls 7 [(3, .long x3_13)] → W p l e rmX7_hashOfClients s m ([.ref a0, .long p1] : List Value).toArray below meth c H locs 0 0 (MQ below (xQl D cy (wX7 cy a0 t0 t1 k0 k1 k2 s0 s1 s2 s3 s4 s5 s6 s7 s8 s9 s10 s11 hd Xle Xch Xpo Xltr Xfi Xse Xth Ksz Kcl Kke Asz Anu Aba Amo Aco Hsz Hla Hce Bsz Bla Bce Tma Tlc Ttc day lim low hig thr off cre rcp pay sv nx SL) r A) ([.ref a0, .long p1] : List Value).toArray s 0 0 A) (F0 m 81 ls []))) → W p l e rmX7_hashOfClients s m ([.ref a0, .long p1] : List Value).toArray below meth c H locs 0 0 (MQ below (xQl D cy (wX7 cy a0 t0 t1 k0 k1 k2 s0 s1 s2 s3 s4 s5 s6 s7 s8 s9 s10 s11 hd Xle Xch Xpo Xltr Xfi Xse Xth Ksz Kcl Kke Asz Anu Aba Amo Aco Hsz Hla Hce Bsz Bla Bce Tma Tlc Ttc day lim low hig thr off cre rcp pay sv nx SL) r A) ([.ref a0, .long p1] : List Value).toArray s 0 0 A) (F0 m 5 ls []) := by
    intro n
    induction n with
    | zero =>
      intro z3_11 z5_12 o_5 H locs ls hf
      rw [fX7_hashOfClients_L5] at hf
      cases hf
    | succ n ih =>
      intro z3_11 z5_12 o_5 H locs ls hf hP hD hS hl hr_5 kx_5
      rw [fX7_hashOfClients_L5] at hf
      refine lv_iload hx hb dX7_hashOfClients_5 (lv_at hl 2 rfl) ?_
      refine lv_aload_n hx hb dX7_hashOfClients_7 rfl (lv_at hl 0 rfl) ?_
      refine x_get hx hb (C := RX7) (T := TX7) (N := 4) (ci := 7) hts iX7 hown hK hP 0 rfl rfl 0 (by decide) wd0 rfl (.ref s0) rfl dX7_hashOfClients_8 ?_
      refine x_get hx hb (C := RX5) (T := TX5) (N := 13) (ci := 5) hts iX5 hown hK hP 6 rfl rfl 0 (by decide) wd1 rfl (.ref s1) rfl dX7_hashOfClients_11 ?_
      refine x_get hx hb (C := RX0) (T := TX0) (N := 5) (ci := 0) hts iX0 hown hK hP 7 rfl rfl 0 (by decide) wd2 rfl (.int Asz) rfl dX7_hashOfClients_14 ?_
      refine lv_icmp_ge (tgt := 81) hx hb dX7_hashOfClients_17 (by decide) (fun c_14 => ?_) (fun c_14 => ?_)
      · have hf := x_t c_14 hf
        exact kx_5 z3_11 (Option.some.inj hf).symm _ _ _ hP hD hS (lv_sub hl [1] rfl)
      · have hf := x_f c_14 hf
        refine lv_ldc2 hx hb hown wd3 dX7_hashOfClients_20 ?_
        refine lv_lload_n hx hb dX7_hashOfClients_23 rfl (lv_at hl 1 rfl) ?_
        refine lv_lmul hx hb dX7_hashOfClients_24 ?_
        refine lv_aload_n hx hb dX7_hashOfClients_25 rfl (lv_at hl 0 rfl) ?_
        refine x_get hx hb (C := RX7) (T := TX7) (N := 4) (ci := 7) hts iX7 hown hK hP 0 rfl rfl 0 (by decide) wd0 rfl (.ref s0) rfl dX7_hashOfClients_26 ?_
        refine x_get hx hb (C := RX5) (T := TX5) (N := 13) (ci := 5) hts iX5 hown hK hP 6 rfl rfl 0 (by decide) wd1 rfl (.ref s1) rfl dX7_hashOfClients_29 ?_
        refine lv_iload hx hb dX7_hashOfClients_32 (lv_at hl 2 rfl) ?_
        obtain ⟨r_15, h_16, hf⟩ := bd1_el hf
        refine x_callVi (As := [.int z5_12]) (rest := [.long (31 * z3_11)]) ⟨hx, hb, hml, hown, hts⟩ (mX0_numberAt l D cy s1 s2 s3 s4 s5 Asz Anu Aba Amo Aco z5_12 r_15 h_16) (cwV 1 hts (gcV_X0_numberAt hbg wm_42_21) rfl rfl rfl kdX0_numberAt ⟨Nat.le_of_ble_eq_true rfl, Nat.le_of_ble_eq_true rfl⟩) (w1 := [(a0, .inr (7, [.ref s0, .ref (hd 0), .ref t0, .ref k0]))] ++ (wX2 cy t0 t1 Xle Xch Xpo Xltr Xfi Xse Xth ++ (wX3 cy k0 k1 k2 Ksz Kcl Kke ++ ([(s0, .inr (5, [.ref s1, .ref s6, .ref s8, .ref s10, .int day, .int lim, .int low, .int hig, .int thr, .long off, .long cre, .long rcp, .long pay]))])))) (w2 := wX4 cy s6 s7 Hsz Hla Hce ++ (wX4 cy s8 s9 Bsz Bla Bce ++ (wX6 cy s10 s11 Tma Tlc Ttc ++ (wX1 cy hd sv nx SL)))) (w' := wX7 cy a0 t0 t1 k0 k1 k2 s0 s1 s2 s3 s4 s5 s6 s7 s8 s9 s10 s11 hd Xle Xch Xpo Xltr Xfi Xse Xth Ksz Kcl Kke Asz Anu Aba Amo Aco Hsz Hla Hce Bsz Bla Bce Tma Tlc Ttc day lim low hig thr off cre rcp pay sv nx SL) rfl rfl hP hK hD hN hS hA (q0 := 0) rfl rfl rfl rfl hl rfl (Nat.le_of_ble_eq_true rfl) dX7_hashOfClients_34 ⟨Nat.zero_le _, Nat.zero_le _⟩ (fun H locs hP hD hS => ?_)
        refine lv_i2l (v := r_15.toInt64) hx hb dX7_hashOfClients_37 rfl ?_
        refine lv_ladd hx hb dX7_hashOfClients_38 ?_
        obtain ⟨x3_17, ex3_17, hf⟩ := lt_el hf
        refine x_topl ex3_17 ?_
        refine lv_lstore_n (lv' := [(3, .long x3_17), (0, .ref a0), (5, .int z5_12)]) hx hb dX7_hashOfClients_39 rfl hl (by decide) rfl (fun ls hl => ?_)
        refine lv_iconst (v := 0) hx hb dX7_hashOfClients_40 (by decide) ?_
        refine lv_istore (lv' := [(6, .int 0), (3, .long x3_17), (0, .ref a0), (5, .int z5_12)]) hx hb dX7_hashOfClients_41 hl (by decide) rfl (fun ls hl => ?_)
        have hL_43 : ∀ (n : Nat) (z3_19 : Int64) (z6_20 : Int32) (o : Int64) (H : Heap) (locs : List Loc) (ls : Array Slot), fX7_hashOfClients_L43 Asz Anu Aba Amo Aco Hsz Hce Bsz Bce z5_12 n z3_19 z6_20 = some o → va_P D vwCl (wX7 cy a0 t0 t1 k0 k1 k2 s0 s1 s2 s3 s4 s5 s6 s7 s8 s9 s10 s11 hd Xle Xch Xpo Xltr Xfi Xse Xth Ksz Kcl Kke Asz Anu Aba Amo Aco Hsz Hla Hce Bsz Bla Bce Tma Tlc Ttc day lim low hig thr off cre rcp pay sv nx SL) H → va_D A (wX7 cy a0 t0 t1 k0 k1 k2 s0 s1 s2 s3 s4 s5 s6 s7 s8 s9 s10 s11 hd Xle Xch Xpo Xltr Xfi Xse Xth Ksz Kcl Kke Asz Anu Aba Amo Aco Hsz Hla Hce Bsz Bla Bce Tma Tlc Ttc day lim low hig thr off cre rcp pay sv nx SL) → va_S A s.heap H locs → lv_has ls 7 [(0, .ref a0), (3, .long z3_19), (5, .int z5_12), (6, .int z6_20)] → True → ((∀ (x3_21 : Int64) , o = x3_21 → ∀ (H : Heap) (locs : List Loc) (ls : Array Slot), va_P D vwCl (wX7 cy a0 t0 t1 k0 k1 k2 s0 s1 s2 s3 s4 s5 s6 s7 s8 s9 s10 s11 hd Xle Xch Xpo Xltr Xfi Xse Xth Ksz Kcl Kke Asz Anu Aba Amo Aco Hsz Hla Hce Bsz Bla Bce Tma Tlc Ttc day lim low hig thr off cre rcp pay sv nx SL) H → va_D A (wX7 cy a0 t0 t1 k0 k1 k2 s0 s1 s2 s3 s4 s5 s6 s7 s8 s9 s10 s11 hd Xle Xch Xpo Xltr Xfi Xse Xth Ksz Kcl Kke Asz Anu Aba Amo Aco Hsz Hla Hce Bsz Bla Bce Tma Tlc Ttc day lim low hig thr off cre rcp pay sv nx SL) → va_S A s.heap H locs → lv_has ls 7 [(0, .ref a0), (3, .long x3_21), (5, .int z5_12)] → W p l e rmX7_hashOfClients s m ([.ref a0, .long p1] : List Value).toArray below meth c H locs 0 0 (MQ below (xQl D cy (wX7 cy a0 t0 t1 k0 k1 k2 s0 s1 s2 s3 s4 s5 s6 s7 s8 s9 s10 s11 hd Xle Xch Xpo Xltr Xfi Xse Xth Ksz Kcl Kke Asz Anu Aba Amo Aco Hsz Hla Hce Bsz Bla Bce Tma Tlc Ttc day lim low hig thr off cre rcp pay sv nx SL) r A) ([.ref a0, .long p1] : List Value).toArray s 0 0 A) (F0 m 75 ls []))) → W p l e rmX7_hashOfClients s m ([.ref a0, .long p1] : List Value).toArray below meth c H locs 0 0 (MQ below (xQl D cy (wX7 cy a0 t0 t1 k0 k1 k2 s0 s1 s2 s3 s4 s5 s6 s7 s8 s9 s10 s11 hd Xle Xch Xpo Xltr Xfi Xse Xth Ksz Kcl Kke Asz Anu Aba Amo Aco Hsz Hla Hce Bsz Bla Bce Tma Tlc Ttc day lim low hig thr off cre rcp pay sv nx SL) r A) ([.ref a0, .long p1] : List Value).toArray s 0 0 A) (F0 m 43 ls []) := by
          intro n
          induction n with
          | zero =>
            intro z3_19 z6_20 o_43 H locs ls hf
            rw [fX7_hashOfClients_L43] at hf
            cases hf
          | succ n ih =>
            intro z3_19 z6_20 o_43 H locs ls hf hP hD hS hl hr_43 kx_43
            rw [fX7_hashOfClients_L43] at hf
            refine lv_iload hx hb dX7_hashOfClients_43 (lv_at hl 3 rfl) ?_
            refine lv_bipush (v := 7) hx hb dX7_hashOfClients_45 (by decide) ?_
            refine lv_icmp_gt (tgt := 75) hx hb dX7_hashOfClients_47 (by decide) (fun c_22 => ?_) (fun c_22 => ?_)
            · have hf := x_t c_22 hf
              exact kx_43 z3_19 (Option.some.inj hf).symm _ _ _ hP hD hS (lv_sub hl [0, 1, 2] rfl)
            · have hf := x_f c_22 hf
              refine lv_ldc2 hx hb hown wd3 dX7_hashOfClients_50 ?_
              refine lv_lload_n hx hb dX7_hashOfClients_53 rfl (lv_at hl 1 rfl) ?_
              refine lv_lmul hx hb dX7_hashOfClients_54 ?_
              refine lv_aload_n hx hb dX7_hashOfClients_55 rfl (lv_at hl 0 rfl) ?_
              refine x_get hx hb (C := RX7) (T := TX7) (N := 4) (ci := 7) hts iX7 hown hK hP 0 rfl rfl 0 (by decide) wd0 rfl (.ref s0) rfl dX7_hashOfClients_56 ?_
              refine lv_iload hx hb dX7_hashOfClients_59 (lv_at hl 2 rfl) ?_
              refine lv_iload hx hb dX7_hashOfClients_61 (lv_at hl 3 rfl) ?_
              obtain ⟨r_23, h_24, hf⟩ := bd1_el hf
              refine x_callVi (As := [.int z5_12, .int z6_20]) (rest := [.long (31 * z3_19)]) ⟨hx, hb, hml, hown, hts⟩ (mX5_aboutClient l D cy s0 s1 s2 s3 s4 s5 s6 s7 s8 s9 s10 s11 Asz Anu Aba Amo Aco Hsz Hla Hce Bsz Bla Bce Tma Tlc Ttc day lim low hig thr off cre rcp pay z5_12 z6_20 r_23 h_24) (cwV 2 hts (gcV_X5_aboutClient hbg wm_28_15) rfl rfl rfl kdX5_aboutClient ⟨Nat.le_of_ble_eq_true rfl, Nat.le_of_ble_eq_true rfl⟩) (w1 := [(a0, .inr (7, [.ref s0, .ref (hd 0), .ref t0, .ref k0]))] ++ (wX2 cy t0 t1 Xle Xch Xpo Xltr Xfi Xse Xth ++ (wX3 cy k0 k1 k2 Ksz Kcl Kke))) (w2 := wX1 cy hd sv nx SL) (w' := wX7 cy a0 t0 t1 k0 k1 k2 s0 s1 s2 s3 s4 s5 s6 s7 s8 s9 s10 s11 hd Xle Xch Xpo Xltr Xfi Xse Xth Ksz Kcl Kke Asz Anu Aba Amo Aco Hsz Hla Hce Bsz Bla Bce Tma Tlc Ttc day lim low hig thr off cre rcp pay sv nx SL) rfl rfl hP hK hD hN hS hA (q0 := 0) rfl rfl rfl rfl hl rfl (Nat.le_of_ble_eq_true rfl) dX7_hashOfClients_63 ⟨Nat.zero_le _, Nat.zero_le _⟩ (fun H locs hP hD hS => ?_)
              refine lv_i2l (v := r_23.toInt64) hx hb dX7_hashOfClients_66 rfl ?_
              refine lv_ladd hx hb dX7_hashOfClients_67 ?_
              obtain ⟨x3_25, ex3_25, hf⟩ := lt_el hf
              refine x_topl ex3_25 ?_
              refine lv_lstore_n (lv' := [(3, .long x3_25), (0, .ref a0), (5, .int z5_12), (6, .int z6_20)]) hx hb dX7_hashOfClients_68 rfl hl (by decide) rfl (fun ls hl => ?_)
              refine lv_iinc (v := (z6_20 + 1)) (lv' := [(6, .int (z6_20 + 1)), (3, .long x3_25), (0, .ref a0), (5, .int z5_12)]) hx hb dX7_hashOfClients_69 hl (k := 3) rfl rfl (by decide) rfl (fun ls hl => ?_)
              refine lv_goto (tgt := 43) hx hb dX7_hashOfClients_72 (by decide) ?_
              exact ih x3_25 (z6_20 + 1) _ _ _ _ hf hP hD hS (lv_sub hl [2, 1, 3, 0] rfl) hr_43 kx_43
        obtain ⟨x3_18, h1_43, hf⟩ := bd1_el hf
        refine hL_43 2147483648 x3_17 0 _ _ _ _ h1_43 hP hD hS (lv_sub hl [2, 1, 3, 0] rfl) trivial (fun x3_189 ho H locs ls hP hD hS hl => ?_)
        cases ho
        refine lv_iinc (v := (z5_12 + 1)) (lv' := [(5, .int (z5_12 + 1)), (0, .ref a0), (3, .long x3_18)]) hx hb dX7_hashOfClients_75 hl (k := 2) rfl rfl (by decide) rfl (fun ls hl => ?_)
        refine lv_goto (tgt := 5) hx hb dX7_hashOfClients_78 (by decide) ?_
        exact ih x3_18 (z5_12 + 1) _ _ _ _ hf hP hD hS (lv_sub hl [1, 2, 0] rfl) hr_5 kx_5
  obtain ⟨x3_10, h1_5, hf⟩ := bd1_el hf
  refine hL_5 2147483648 p1 0 _ _ _ _ h1_5 hP hD hS (lv_sub hl [2, 1, 0] rfl) trivial (fun x3_109 ho H locs ls hP hD hS hl => ?_)
  cases ho
  refine lv_lload_n hx hb dX7_hashOfClients_81 rfl (lv_at hl 0 rfl) ?_
  have hf := Option.some.inj hf
  cases hf
  exact x_lret hx hb hr hlocks hK hP hD hS dX7_hashOfClients_82
theorem kdX7_hashOfRows : yX7_hashOfRows.cls ≠ "java/lang/invoke/MethodHandle" ∧ yX7_hashOfRows.cls ≠ "java/lang/invoke/VarHandle" ∧ (parseMethodDescriptor yX7_hashOfRows.desc).map (fun d => d.parameters.length) = some 2 := by decide +kernel
def rmX7_hashOfRows : Room := { frames := 1, cells := 0, slots := 0, locals := 22 }
set_option maxHeartbeats 4000000 in
set_option maxRecDepth 100000 in
theorem mX7_hashOfRows (l : Launch) (D : va_G) (cy : Nat → ClassId) (a0 a1 : Nat) (sz : Int32) (la : Int32) (ce : Nat → Int32) (p1 : Int64) (r : Int64) (hf : fX7_hashOfRows sz ce p1 = some r) : xMl l D cy yX7_hashOfRows aX7_hashOfRows rmX7_hashOfRows ([.long p1, .ref a0] : List Value) (wX4 cy a0 a1 sz la ce) (wX4 cy a0 a1 sz la ce) r := by
  intro hz
  refine x_start (Qc := xQl D cy _ r) (cc := cX7_hashOfRows) (maxL := 7) (ret := (some .long)) (by decide) rfl (Nat.le_of_ble_eq_true rfl) (lv := [(0, .long p1), (2, .ref a0)]) rfl ?_
  intro p e s m below meth c ls A hx hb hr hml hown hts hlocks hK hP hD hS hA hN hl
  have hown : s.vm.findClass RX7 = some m.cls := hown
  have hbg : ∀ w ∈ wsL_law, w ∈ aX7_hashOfRows := fun w h => List.mem_cons_of_mem _ h
  have wd0 : (Cond.fieldLink RX7 249 "ClientMoneyBook$Rows" "size" "I").before ([.long p1, .ref a0] : List Value).toArray s = true := hts _ (List.mem_cons_of_mem _ wm_43_1)
  have wd1 : (Cond.constantLong RX7 209 (31)).before ([.long p1, .ref a0] : List Value).toArray s = true := hts _ (List.mem_cons_of_mem _ wm_42_16)
  have iX4 : ∀ w ∈ u_ws RX4 TX4 3, w ∈ aX7_hashOfRows := fun w h => List.mem_cons_of_mem _ (inlX4 w h)
  unfold fX7_hashOfRows at hf
  refine lv_lload_n hx hb dX7_hashOfRows_0 rfl (lv_at hl 0 rfl) ?_
  refine lv_lstore_n (lv' := [(3, .long p1), (0, .long p1), (2, .ref a0)]) hx hb dX7_hashOfRows_1 rfl hl (by decide) rfl (fun ls hl => ?_)
  refine lv_iconst (v := 0) hx hb dX7_hashOfRows_2 (by decide) ?_
  refine lv_istore (lv' := [(5, .int 0), (3, .long p1), (0, .long p1), (2, .ref a0)]) hx hb dX7_hashOfRows_3 hl (by decide) rfl (fun ls hl => ?_)
  have hL_5 : ∀ (n : Nat) (z3_8 : Int64) (z5_9 : Int32) (o : Int64) (H : Heap) (locs : List Loc) (ls : Array Slot), fX7_hashOfRows_L5 sz ce n z3_8 z5_9 = some o → va_P D vwCl (wX4 cy a0 a1 sz la ce) H → va_D A (wX4 cy a0 a1 sz la ce) → va_S A s.heap H locs → lv_has ls 7 [(2, .ref a0), (3, .long z3_8), (5, .int z5_9)] → True → ((∀ (x3_10 : Int64) , o = x3_10 → ∀ (H : Heap) (locs : List Loc) (ls : Array Slot), va_P D vwCl (wX4 cy a0 a1 sz la ce) H → va_D A (wX4 cy a0 a1 sz la ce) → va_S A s.heap H locs → lv_has ls 7 [(3, .long x3_10)] → W p l e rmX7_hashOfRows s m ([.long p1, .ref a0] : List Value).toArray below meth c H locs 0 0 (MQ below (xQl D cy (wX4 cy a0 a1 sz la ce) r A) ([.long p1, .ref a0] : List Value).toArray s 0 0 A) (F0 m 51 ls []))) → W p l e rmX7_hashOfRows s m ([.long p1, .ref a0] : List Value).toArray below meth c H locs 0 0 (MQ below (xQl D cy (wX4 cy a0 a1 sz la ce) r A) ([.long p1, .ref a0] : List Value).toArray s 0 0 A) (F0 m 5 ls []) := by
    intro n
    induction n with
    | zero =>
      intro z3_8 z5_9 o_5 H locs ls hf
      rw [fX7_hashOfRows_L5] at hf
      cases hf
    | succ n ih =>
      intro z3_8 z5_9 o_5 H locs ls hf hP hD hS hl hr_5 kx_5
      rw [fX7_hashOfRows_L5] at hf
      refine lv_iload hx hb dX7_hashOfRows_5 (lv_at hl 2 rfl) ?_
      refine lv_aload_n hx hb dX7_hashOfRows_7 rfl (lv_at hl 0 rfl) ?_
      refine x_get hx hb (C := RX4) (T := TX4) (N := 3) (ci := 4) hts iX4 hown hK hP 0 rfl rfl 0 (by decide) wd0 rfl (.int sz) rfl dX7_hashOfRows_8 ?_
      refine lv_icmp_ge (tgt := 51) hx hb dX7_hashOfRows_11 (by decide) (fun c_11 => ?_) (fun c_11 => ?_)
      · have hf := x_t c_11 hf
        exact kx_5 z3_8 (Option.some.inj hf).symm _ _ _ hP hD hS (lv_sub hl [1] rfl)
      · have hf := x_f c_11 hf
        refine lv_iconst (v := 0) hx hb dX7_hashOfRows_14 (by decide) ?_
        refine lv_istore (lv' := [(6, .int 0), (2, .ref a0), (3, .long z3_8), (5, .int z5_9)]) hx hb dX7_hashOfRows_15 hl (by decide) rfl (fun ls hl => ?_)
        have hL_17 : ∀ (n : Nat) (z3_13 : Int64) (z6_14 : Int32) (o : Int64) (H : Heap) (locs : List Loc) (ls : Array Slot), fX7_hashOfRows_L17 sz ce z5_9 n z3_13 z6_14 = some o → va_P D vwCl (wX4 cy a0 a1 sz la ce) H → va_D A (wX4 cy a0 a1 sz la ce) → va_S A s.heap H locs → lv_has ls 7 [(2, .ref a0), (3, .long z3_13), (5, .int z5_9), (6, .int z6_14)] → True → ((∀ (x3_15 : Int64) , o = x3_15 → ∀ (H : Heap) (locs : List Loc) (ls : Array Slot), va_P D vwCl (wX4 cy a0 a1 sz la ce) H → va_D A (wX4 cy a0 a1 sz la ce) → va_S A s.heap H locs → lv_has ls 7 [(2, .ref a0), (3, .long x3_15), (5, .int z5_9)] → W p l e rmX7_hashOfRows s m ([.long p1, .ref a0] : List Value).toArray below meth c H locs 0 0 (MQ below (xQl D cy (wX4 cy a0 a1 sz la ce) r A) ([.long p1, .ref a0] : List Value).toArray s 0 0 A) (F0 m 45 ls []))) → W p l e rmX7_hashOfRows s m ([.long p1, .ref a0] : List Value).toArray below meth c H locs 0 0 (MQ below (xQl D cy (wX4 cy a0 a1 sz la ce) r A) ([.long p1, .ref a0] : List Value).toArray s 0 0 A) (F0 m 17 ls []) := by
          intro n
          induction n with
          | zero =>
            intro z3_13 z6_14 o_17 H locs ls hf
            rw [fX7_hashOfRows_L17] at hf
            cases hf
          | succ n ih =>
            intro z3_13 z6_14 o_17 H locs ls hf hP hD hS hl hr_17 kx_17
            rw [fX7_hashOfRows_L17] at hf
            refine lv_iload hx hb dX7_hashOfRows_17 (lv_at hl 3 rfl) ?_
            refine lv_iconst (v := 4) hx hb dX7_hashOfRows_19 (by decide) ?_
            refine lv_icmp_ge (tgt := 45) hx hb dX7_hashOfRows_20 (by decide) (fun c_16 => ?_) (fun c_16 => ?_)
            · have hf := x_t c_16 hf
              exact kx_17 z3_13 (Option.some.inj hf).symm _ _ _ hP hD hS (lv_sub hl [0, 1, 2] rfl)
            · have hf := x_f c_16 hf
              refine lv_ldc2 hx hb hown wd1 dX7_hashOfRows_23 ?_
              refine lv_lload_n hx hb dX7_hashOfRows_26 rfl (lv_at hl 1 rfl) ?_
              refine lv_lmul hx hb dX7_hashOfRows_27 ?_
              refine lv_aload_n hx hb dX7_hashOfRows_28 rfl (lv_at hl 0 rfl) ?_
              refine lv_iload hx hb dX7_hashOfRows_29 (lv_at hl 2 rfl) ?_
              refine lv_iload hx hb dX7_hashOfRows_31 (lv_at hl 3 rfl) ?_
              obtain ⟨r_17, h_18, hf⟩ := bd1_el hf
              refine x_callVi (As := [.int z5_9, .int z6_14]) (rest := [.long (31 * z3_13)]) ⟨hx, hb, hml, hown, hts⟩ (mX4_get l D cy a0 a1 sz la ce z5_9 z6_14 r_17 h_18) (cwV 2 hts (gcV_X4_get hbg wm_29_23) rfl rfl rfl kdX4_get ⟨Nat.le_of_ble_eq_true rfl, Nat.le_of_ble_eq_true rfl⟩) (w1 := []) (w2 := []) (w' := wX4 cy a0 a1 sz la ce) (List.append_nil _) (List.append_nil _) hP hK hD hN hS hA (q0 := 0) rfl rfl rfl rfl hl rfl (Nat.le_of_ble_eq_true rfl) dX7_hashOfRows_33 ⟨Nat.zero_le _, Nat.zero_le _⟩ (fun H locs hP hD hS => ?_)
              refine lv_i2l (v := r_17.toInt64) hx hb dX7_hashOfRows_36 rfl ?_
              refine lv_ladd hx hb dX7_hashOfRows_37 ?_
              obtain ⟨x3_19, ex3_19, hf⟩ := lt_el hf
              refine x_topl ex3_19 ?_
              refine lv_lstore_n (lv' := [(3, .long x3_19), (2, .ref a0), (5, .int z5_9), (6, .int z6_14)]) hx hb dX7_hashOfRows_38 rfl hl (by decide) rfl (fun ls hl => ?_)
              refine lv_iinc (v := (z6_14 + 1)) (lv' := [(6, .int (z6_14 + 1)), (3, .long x3_19), (2, .ref a0), (5, .int z5_9)]) hx hb dX7_hashOfRows_39 hl (k := 3) rfl rfl (by decide) rfl (fun ls hl => ?_)
              refine lv_goto (tgt := 17) hx hb dX7_hashOfRows_42 (by decide) ?_
              exact ih x3_19 (z6_14 + 1) _ _ _ _ hf hP hD hS (lv_sub hl [2, 1, 3, 0] rfl) hr_17 kx_17
        obtain ⟨x3_12, h1_17, hf⟩ := bd1_el hf
        refine hL_17 2147483648 z3_8 0 _ _ _ _ h1_17 hP hD hS (lv_sub hl [1, 2, 3, 0] rfl) trivial (fun x3_129 ho H locs ls hP hD hS hl => ?_)
        cases ho
        refine lv_iinc (v := (z5_9 + 1)) (lv' := [(5, .int (z5_9 + 1)), (2, .ref a0), (3, .long x3_12)]) hx hb dX7_hashOfRows_45 hl (k := 2) rfl rfl (by decide) rfl (fun ls hl => ?_)
        refine lv_goto (tgt := 5) hx hb dX7_hashOfRows_48 (by decide) ?_
        exact ih x3_12 (z5_9 + 1) _ _ _ _ hf hP hD hS (lv_sub hl [1, 2, 0] rfl) hr_5 kx_5
  obtain ⟨x3_7, h1_5, hf⟩ := bd1_el hf
  refine hL_5 2147483648 p1 0 _ _ _ _ h1_5 hP hD hS (lv_sub hl [3, 1, 0] rfl) trivial (fun x3_79 ho H locs ls hP hD hS hl => ?_)
  cases ho
  refine lv_lload_n hx hb dX7_hashOfRows_51 rfl (lv_at hl 0 rfl) ?_
  have hf := Option.some.inj hf
  cases hf
  exact x_lret hx hb hr hlocks hK hP hD hS dX7_hashOfRows_52
theorem kdX7_hashOfTrail : yX7_hashOfTrail.cls = RX7 ∧ yX7_hashOfTrail.cls ≠ "java/lang/invoke/MethodHandle" ∧ yX7_hashOfTrail.cls ≠ "java/lang/invoke/VarHandle" ∧ (parseMethodDescriptor yX7_hashOfTrail.desc).map (fun d => d.parameters.length) = some 1 := by decide +kernel
def rmX7_hashOfTrail : Room := { frames := 2, cells := 0, slots := 0, locals := 44 }
set_option maxHeartbeats 4000000 in
set_option maxRecDepth 100000 in
theorem mX7_hashOfTrail (l : Launch) (D : va_G) (cy : Nat → ClassId) (a0 t0 t1 k0 k1 k2 s0 s1 s2 s3 s4 s5 s6 s7 s8 s9 s10 s11 : Nat) (hd : Nat → Nat) (Xle : Int32) (Xch : Nat → Int32) (Xpo : Int32) (Xltr : Int32) (Xfi : Int32) (Xse : Int32) (Xth : Int32) (Ksz : Int32) (Kcl : Nat → Int32) (Kke : Nat → Int32) (Asz : Int32) (Anu : Nat → Int32) (Aba : Nat → Int32) (Amo : Nat → Int32) (Aco : Nat → Int64) (Hsz : Int32) (Hla : Int32) (Hce : Nat → Int32) (Bsz : Int32) (Bla : Int32) (Bce : Nat → Int32) (Tma : Int32) (Tlc : Int32) (Ttc : Nat → Int32) (day : Int32) (lim : Int32) (low : Int32) (hig : Int32) (thr : Int32) (off : Int64) (cre : Int64) (rcp : Int64) (pay : Int64) (sv : Int32) (nx : Int32) (SL : Nat → XS) (p1 : Int64) (r : Int64) (hf : fX7_hashOfTrail Tma Ttc p1 = some r) : xMl l D cy yX7_hashOfTrail aX7_hashOfTrail rmX7_hashOfTrail ([.ref a0, .long p1] : List Value) (wX7 cy a0 t0 t1 k0 k1 k2 s0 s1 s2 s3 s4 s5 s6 s7 s8 s9 s10 s11 hd Xle Xch Xpo Xltr Xfi Xse Xth Ksz Kcl Kke Asz Anu Aba Amo Aco Hsz Hla Hce Bsz Bla Bce Tma Tlc Ttc day lim low hig thr off cre rcp pay sv nx SL) (wX7 cy a0 t0 t1 k0 k1 k2 s0 s1 s2 s3 s4 s5 s6 s7 s8 s9 s10 s11 hd Xle Xch Xpo Xltr Xfi Xse Xth Ksz Kcl Kke Asz Anu Aba Amo Aco Hsz Hla Hce Bsz Bla Bce Tma Tlc Ttc day lim low hig thr off cre rcp pay sv nx SL) r := by
  intro hz
  refine x_start (Qc := xQl D cy _ r) (cc := cX7_hashOfTrail) (maxL := 9) (ret := (some .long)) (by decide) rfl (Nat.le_of_ble_eq_true rfl) (lv := [(0, .ref a0), (1, .long p1)]) rfl ?_
  intro p e s m below meth c ls A hx hb hr hml hown hts hlocks hK hP hD hS hA hN hl
  have hown : s.vm.findClass RX7 = some m.cls := hown
  have hbg : ∀ w ∈ wsL_law, w ∈ aX7_hashOfTrail := fun w h => List.mem_cons_of_mem _ h
  have wd0 : (Cond.fieldLink RX7 10 "ClientMoneyBook" "state" "LClientMoneyBook$State;").before ([.ref a0, .long p1] : List Value).toArray s = true := hts _ (List.mem_cons_of_mem _ wm_0_15)
  have wd1 : (Cond.fieldLink RX7 127 "ClientMoneyBook$State" "trail" "LClientMoneyBook$Trail;").before ([.ref a0, .long p1] : List Value).toArray s = true := hts _ (List.mem_cons_of_mem _ wm_30_17)
  have wd2 : (Cond.constantLong RX7 209 (31)).before ([.ref a0, .long p1] : List Value).toArray s = true := hts _ (List.mem_cons_of_mem _ wm_42_16)
  have wd3 : (Cond.fieldLink RX7 131 "ClientMoneyBook$Trail" "made" "I").before ([.ref a0, .long p1] : List Value).toArray s = true := hts _ (List.mem_cons_of_mem _ wm_30_18)
  have iX5 : ∀ w ∈ u_ws RX5 TX5 13, w ∈ aX7_hashOfTrail := fun w h => List.mem_cons_of_mem _ (inlX5 w h)
  have iX6 : ∀ w ∈ u_ws RX6 TX6 3, w ∈ aX7_hashOfTrail := fun w h => List.mem_cons_of_mem _ (inlX6 w h)
  have iX7 : ∀ w ∈ u_ws RX7 TX7 4, w ∈ aX7_hashOfTrail := fun w h => List.mem_cons_of_mem _ (inlX7 w h)
  unfold fX7_hashOfTrail at hf
  refine lv_aload_n hx hb dX7_hashOfTrail_0 rfl (lv_at hl 0 rfl) ?_
  refine x_get hx hb (C := RX7) (T := TX7) (N := 4) (ci := 7) hts iX7 hown hK hP 0 rfl rfl 0 (by decide) wd0 rfl (.ref s0) rfl dX7_hashOfTrail_1 ?_
  refine x_get hx hb (C := RX5) (T := TX5) (N := 13) (ci := 5) hts iX5 hown hK hP 6 rfl rfl 3 (by decide) wd1 rfl (.ref s10) rfl dX7_hashOfTrail_4 ?_
  refine lv_astore_n (lv' := [(3, .ref s10), (0, .ref a0), (1, .long p1)]) hx hb dX7_hashOfTrail_7 rfl hl (by decide) rfl (fun ls hl => ?_)
  refine lv_ldc2 hx hb hown wd2 dX7_hashOfTrail_8 ?_
  refine lv_lload_n hx hb dX7_hashOfTrail_11 rfl (lv_at hl 2 rfl) ?_
  refine lv_lmul hx hb dX7_hashOfTrail_12 ?_
  refine lv_aload_n hx hb dX7_hashOfTrail_13 rfl (lv_at hl 0 rfl) ?_
  refine x_get hx hb (C := RX6) (T := TX6) (N := 3) (ci := 6) hts iX6 hown hK hP 16 rfl rfl 0 (by decide) wd3 rfl (.int Tma) rfl dX7_hashOfTrail_14 ?_
  refine lv_i2l (v := Tma.toInt64) hx hb dX7_hashOfTrail_17 rfl ?_
  refine lv_ladd hx hb dX7_hashOfTrail_18 ?_
  obtain ⟨x4_1, ex4_1, hf⟩ := lt_el hf
  refine x_topl ex4_1 ?_
  refine lv_lstore (lv' := [(4, .long x4_1), (3, .ref s10), (0, .ref a0), (1, .long p1)]) hx hb dX7_hashOfTrail_19 hl (by decide) rfl (fun ls hl => ?_)
  refine lv_bipush (v := 23) hx hb dX7_hashOfTrail_21 (by decide) ?_
  refine lv_istore (lv' := [(6, .int 23), (4, .long x4_1), (3, .ref s10), (0, .ref a0), (1, .long p1)]) hx hb dX7_hashOfTrail_23 hl (by decide) rfl (fun ls hl => ?_)
  have hL_25 : ∀ (n : Nat) (z4_13 : Int64) (z6_14 : Int32) (o : Int64) (H : Heap) (locs : List Loc) (ls : Array Slot), fX7_hashOfTrail_L25 Tma Ttc n z4_13 z6_14 = some o → va_P D vwCl (wX7 cy a0 t0 t1 k0 k1 k2 s0 s1 s2 s3 s4 s5 s6 s7 s8 s9 s10 s11 hd Xle Xch Xpo Xltr Xfi Xse Xth Ksz Kcl Kke Asz Anu Aba Amo Aco Hsz Hla Hce Bsz Bla Bce Tma Tlc Ttc day lim low hig thr off cre rcp pay sv nx SL) H → va_D A (wX7 cy a0 t0 t1 k0 k1 k2 s0 s1 s2 s3 s4 s5 s6 s7 s8 s9 s10 s11 hd Xle Xch Xpo Xltr Xfi Xse Xth Ksz Kcl Kke Asz Anu Aba Amo Aco Hsz Hla Hce Bsz Bla Bce Tma Tlc Ttc day lim low hig thr off cre rcp pay sv nx SL) → va_S A s.heap H locs → lv_has ls 9 [(3, .ref s10), (4, .long z4_13), (6, .int z6_14)] → True → ((∀ (x4_15 : Int64) , o = x4_15 → ∀ (H : Heap) (locs : List Loc) (ls : Array Slot), va_P D vwCl (wX7 cy a0 t0 t1 k0 k1 k2 s0 s1 s2 s3 s4 s5 s6 s7 s8 s9 s10 s11 hd Xle Xch Xpo Xltr Xfi Xse Xth Ksz Kcl Kke Asz Anu Aba Amo Aco Hsz Hla Hce Bsz Bla Bce Tma Tlc Ttc day lim low hig thr off cre rcp pay sv nx SL) H → va_D A (wX7 cy a0 t0 t1 k0 k1 k2 s0 s1 s2 s3 s4 s5 s6 s7 s8 s9 s10 s11 hd Xle Xch Xpo Xltr Xfi Xse Xth Ksz Kcl Kke Asz Anu Aba Amo Aco Hsz Hla Hce Bsz Bla Bce Tma Tlc Ttc day lim low hig thr off cre rcp pay sv nx SL) → va_S A s.heap H locs → lv_has ls 9 [(4, .long x4_15)] → W p l e rmX7_hashOfTrail s m ([.ref a0, .long p1] : List Value).toArray below meth c H locs 0 0 (MQ below (xQl D cy (wX7 cy a0 t0 t1 k0 k1 k2 s0 s1 s2 s3 s4 s5 s6 s7 s8 s9 s10 s11 hd Xle Xch Xpo Xltr Xfi Xse Xth Ksz Kcl Kke Asz Anu Aba Amo Aco Hsz Hla Hce Bsz Bla Bce Tma Tlc Ttc day lim low hig thr off cre rcp pay sv nx SL) r A) ([.ref a0, .long p1] : List Value).toArray s 0 0 A) (F0 m 88 ls []))) → W p l e rmX7_hashOfTrail s m ([.ref a0, .long p1] : List Value).toArray below meth c H locs 0 0 (MQ below (xQl D cy (wX7 cy a0 t0 t1 k0 k1 k2 s0 s1 s2 s3 s4 s5 s6 s7 s8 s9 s10 s11 hd Xle Xch Xpo Xltr Xfi Xse Xth Ksz Kcl Kke Asz Anu Aba Amo Aco Hsz Hla Hce Bsz Bla Bce Tma Tlc Ttc day lim low hig thr off cre rcp pay sv nx SL) r A) ([.ref a0, .long p1] : List Value).toArray s 0 0 A) (F0 m 25 ls []) := by
    intro n
    induction n with
    | zero =>
      intro z4_13 z6_14 o_25 H locs ls hf
      rw [fX7_hashOfTrail_L25] at hf
      cases hf
    | succ n ih =>
      intro z4_13 z6_14 o_25 H locs ls hf hP hD hS hl hr_25 kx_25
      rw [fX7_hashOfTrail_L25] at hf
      refine lv_iload hx hb dX7_hashOfTrail_25 (lv_at hl 2 rfl) ?_
      refine lv_if_lt (tgt := 88) hx hb dX7_hashOfTrail_27 (by decide) (fun c_16 => ?_) (fun c_16 => ?_)
      · have hf := x_t c_16 hf
        exact kx_25 z4_13 (Option.some.inj hf).symm _ _ _ hP hD hS (lv_sub hl [1] rfl)
      · have hf := x_f c_16 hf
        refine lv_aload_n hx hb dX7_hashOfTrail_30 rfl (lv_at hl 0 rfl) ?_
        refine x_get hx hb (C := RX6) (T := TX6) (N := 3) (ci := 6) hts iX6 hown hK hP 16 rfl rfl 0 (by decide) wd3 rfl (.int Tma) rfl dX7_hashOfTrail_31 ?_
        refine lv_iload hx hb dX7_hashOfTrail_34 (lv_at hl 2 rfl) ?_
        refine lv_isub hx hb dX7_hashOfTrail_36 ?_
        obtain ⟨x7_17, ex7_17, hf⟩ := lt_el hf
        refine x_topi ex7_17 ?_
        refine lv_istore (lv' := [(7, .int x7_17), (3, .ref s10), (4, .long z4_13), (6, .int z6_14)]) hx hb dX7_hashOfTrail_37 hl (by decide) rfl (fun ls hl => ?_)
        refine lv_aload_n hx hb dX7_hashOfTrail_39 rfl (lv_at hl 1 rfl) ?_
        refine lv_iload hx hb dX7_hashOfTrail_40 (lv_at hl 0 rfl) ?_
        obtain ⟨r_18, h_19, hf⟩ := bd1_el hf
        refine x_callVi (As := [.int x7_17]) (rest := []) ⟨hx, hb, hml, hown, hts⟩ (mX6_keeps l D cy s10 s11 Tma Tlc Ttc x7_17 r_18 h_19) (cwV 1 hts (gcV_X6_keeps hbg wm_31_3) rfl rfl rfl kdX6_keeps ⟨Nat.le_of_ble_eq_true rfl, Nat.le_of_ble_eq_true rfl⟩) (w1 := [(a0, .inr (7, [.ref s0, .ref (hd 0), .ref t0, .ref k0]))] ++ (wX2 cy t0 t1 Xle Xch Xpo Xltr Xfi Xse Xth ++ (wX3 cy k0 k1 k2 Ksz Kcl Kke ++ ([(s0, .inr (5, [.ref s1, .ref s6, .ref s8, .ref s10, .int day, .int lim, .int low, .int hig, .int thr, .long off, .long cre, .long rcp, .long pay]))] ++ (wX0 cy s1 s2 s3 s4 s5 Asz Anu Aba Amo Aco ++ (wX4 cy s6 s7 Hsz Hla Hce ++ (wX4 cy s8 s9 Bsz Bla Bce))))))) (w2 := wX1 cy hd sv nx SL) (w' := wX7 cy a0 t0 t1 k0 k1 k2 s0 s1 s2 s3 s4 s5 s6 s7 s8 s9 s10 s11 hd Xle Xch Xpo Xltr Xfi Xse Xth Ksz Kcl Kke Asz Anu Aba Amo Aco Hsz Hla Hce Bsz Bla Bce Tma Tlc Ttc day lim low hig thr off cre rcp pay sv nx SL) rfl rfl hP hK hD hN hS hA (q0 := 0) rfl rfl rfl rfl hl rfl (Nat.le_of_ble_eq_true rfl) dX7_hashOfTrail_42 ⟨Nat.zero_le _, Nat.zero_le _⟩ (fun H locs hP hD hS => ?_)
        refine lv_if_eq (tgt := 82) hx hb dX7_hashOfTrail_45 (by decide) (fun c_20 => ?_) (fun c_20 => ?_)
        · have hf := x_t c_20 hf
          refine lv_iinc (v := (z6_14 + (-1))) (lv' := [(6, .int (z6_14 + (-1))), (7, .int x7_17), (3, .ref s10), (4, .long z4_13)]) hx hb dX7_hashOfTrail_82 hl (k := 3) rfl rfl (by decide) rfl (fun ls hl => ?_)
          refine lv_goto (tgt := 25) hx hb dX7_hashOfTrail_85 (by decide) ?_
          exact ih z4_13 (z6_14 + (-1)) _ _ _ _ hf hP hD hS (lv_sub hl [2, 3, 0] rfl) hr_25 kx_25
        · have hf := x_f c_20 hf
          refine lv_iconst (v := 0) hx hb dX7_hashOfTrail_48 (by decide) ?_
          refine lv_istore (lv' := [(8, .int 0), (7, .int x7_17), (3, .ref s10), (4, .long z4_13), (6, .int z6_14)]) hx hb dX7_hashOfTrail_49 hl (by decide) rfl (fun ls hl => ?_)
          have hL_51 : ∀ (n : Nat) (z4_22 : Int64) (z8_23 : Int32) (o : Int64) (H : Heap) (locs : List Loc) (ls : Array Slot), fX7_hashOfTrail_L51 Tma Ttc z6_14 x7_17 n z4_22 z8_23 = some o → va_P D vwCl (wX7 cy a0 t0 t1 k0 k1 k2 s0 s1 s2 s3 s4 s5 s6 s7 s8 s9 s10 s11 hd Xle Xch Xpo Xltr Xfi Xse Xth Ksz Kcl Kke Asz Anu Aba Amo Aco Hsz Hla Hce Bsz Bla Bce Tma Tlc Ttc day lim low hig thr off cre rcp pay sv nx SL) H → va_D A (wX7 cy a0 t0 t1 k0 k1 k2 s0 s1 s2 s3 s4 s5 s6 s7 s8 s9 s10 s11 hd Xle Xch Xpo Xltr Xfi Xse Xth Ksz Kcl Kke Asz Anu Aba Amo Aco Hsz Hla Hce Bsz Bla Bce Tma Tlc Ttc day lim low hig thr off cre rcp pay sv nx SL) → va_S A s.heap H locs → lv_has ls 9 [(3, .ref s10), (4, .long z4_22), (6, .int z6_14), (7, .int x7_17), (8, .int z8_23)] → True → ((∀ (x4_24 : Int64) , o = x4_24 → ∀ (H : Heap) (locs : List Loc) (ls : Array Slot), va_P D vwCl (wX7 cy a0 t0 t1 k0 k1 k2 s0 s1 s2 s3 s4 s5 s6 s7 s8 s9 s10 s11 hd Xle Xch Xpo Xltr Xfi Xse Xth Ksz Kcl Kke Asz Anu Aba Amo Aco Hsz Hla Hce Bsz Bla Bce Tma Tlc Ttc day lim low hig thr off cre rcp pay sv nx SL) H → va_D A (wX7 cy a0 t0 t1 k0 k1 k2 s0 s1 s2 s3 s4 s5 s6 s7 s8 s9 s10 s11 hd Xle Xch Xpo Xltr Xfi Xse Xth Ksz Kcl Kke Asz Anu Aba Amo Aco Hsz Hla Hce Bsz Bla Bce Tma Tlc Ttc day lim low hig thr off cre rcp pay sv nx SL) → va_S A s.heap H locs → lv_has ls 9 [(3, .ref s10), (4, .long x4_24), (6, .int z6_14)] → W p l e rmX7_hashOfTrail s m ([.ref a0, .long p1] : List Value).toArray below meth c H locs 0 0 (MQ below (xQl D cy (wX7 cy a0 t0 t1 k0 k1 k2 s0 s1 s2 s3 s4 s5 s6 s7 s8 s9 s10 s11 hd Xle Xch Xpo Xltr Xfi Xse Xth Ksz Kcl Kke Asz Anu Aba Amo Aco Hsz Hla Hce Bsz Bla Bce Tma Tlc Ttc day lim low hig thr off cre rcp pay sv nx SL) r A) ([.ref a0, .long p1] : List Value).toArray s 0 0 A) (F0 m 82 ls []))) → W p l e rmX7_hashOfTrail s m ([.ref a0, .long p1] : List Value).toArray below meth c H locs 0 0 (MQ below (xQl D cy (wX7 cy a0 t0 t1 k0 k1 k2 s0 s1 s2 s3 s4 s5 s6 s7 s8 s9 s10 s11 hd Xle Xch Xpo Xltr Xfi Xse Xth Ksz Kcl Kke Asz Anu Aba Amo Aco Hsz Hla Hce Bsz Bla Bce Tma Tlc Ttc day lim low hig thr off cre rcp pay sv nx SL) r A) ([.ref a0, .long p1] : List Value).toArray s 0 0 A) (F0 m 51 ls []) := by
            intro n
            induction n with
            | zero =>
              intro z4_22 z8_23 o_51 H locs ls hf
              rw [fX7_hashOfTrail_L51] at hf
              cases hf
            | succ n ih =>
              intro z4_22 z8_23 o_51 H locs ls hf hP hD hS hl hr_51 kx_51
              rw [fX7_hashOfTrail_L51] at hf
              refine lv_iload hx hb dX7_hashOfTrail_51 (lv_at hl 4 rfl) ?_
              refine lv_bipush (v := 6) hx hb dX7_hashOfTrail_53 (by decide) ?_
              refine lv_icmp_gt (tgt := 82) hx hb dX7_hashOfTrail_55 (by decide) (fun c_25 => ?_) (fun c_25 => ?_)
              · have hf := x_t c_25 hf
                exact kx_51 z4_22 (Option.some.inj hf).symm _ _ _ hP hD hS (lv_sub hl [0, 1, 2] rfl)
              · have hf := x_f c_25 hf
                refine lv_ldc2 hx hb hown wd2 dX7_hashOfTrail_58 ?_
                refine lv_lload hx hb dX7_hashOfTrail_61 (lv_at hl 1 rfl) ?_
                refine lv_lmul hx hb dX7_hashOfTrail_63 ?_
                refine lv_aload_n hx hb dX7_hashOfTrail_64 rfl (lv_at hl 0 rfl) ?_
                refine lv_iload hx hb dX7_hashOfTrail_65 (lv_at hl 3 rfl) ?_
                refine lv_iload hx hb dX7_hashOfTrail_67 (lv_at hl 4 rfl) ?_
                obtain ⟨r_26, h_27, hf⟩ := bd1_el hf
                refine x_callVi (As := [.int x7_17, .int z8_23]) (rest := [.long (31 * z4_22)]) ⟨hx, hb, hml, hown, hts⟩ (mX6_get l D cy s10 s11 Tma Tlc Ttc x7_17 z8_23 r_26 h_27) (cwV 2 hts (gcV_X6_get hbg wm_31_4) rfl rfl rfl kdX6_get ⟨Nat.le_of_ble_eq_true rfl, Nat.le_of_ble_eq_true rfl⟩) (w1 := [(a0, .inr (7, [.ref s0, .ref (hd 0), .ref t0, .ref k0]))] ++ (wX2 cy t0 t1 Xle Xch Xpo Xltr Xfi Xse Xth ++ (wX3 cy k0 k1 k2 Ksz Kcl Kke ++ ([(s0, .inr (5, [.ref s1, .ref s6, .ref s8, .ref s10, .int day, .int lim, .int low, .int hig, .int thr, .long off, .long cre, .long rcp, .long pay]))] ++ (wX0 cy s1 s2 s3 s4 s5 Asz Anu Aba Amo Aco ++ (wX4 cy s6 s7 Hsz Hla Hce ++ (wX4 cy s8 s9 Bsz Bla Bce))))))) (w2 := wX1 cy hd sv nx SL) (w' := wX7 cy a0 t0 t1 k0 k1 k2 s0 s1 s2 s3 s4 s5 s6 s7 s8 s9 s10 s11 hd Xle Xch Xpo Xltr Xfi Xse Xth Ksz Kcl Kke Asz Anu Aba Amo Aco Hsz Hla Hce Bsz Bla Bce Tma Tlc Ttc day lim low hig thr off cre rcp pay sv nx SL) rfl rfl hP hK hD hN hS hA (q0 := 0) rfl rfl rfl rfl hl rfl (Nat.le_of_ble_eq_true rfl) dX7_hashOfTrail_69 ⟨Nat.zero_le _, Nat.zero_le _⟩ (fun H locs hP hD hS => ?_)
                refine lv_i2l (v := r_26.toInt64) hx hb dX7_hashOfTrail_72 rfl ?_
                refine lv_ladd hx hb dX7_hashOfTrail_73 ?_
                obtain ⟨x4_28, ex4_28, hf⟩ := lt_el hf
                refine x_topl ex4_28 ?_
                refine lv_lstore (lv' := [(4, .long x4_28), (3, .ref s10), (6, .int z6_14), (7, .int x7_17), (8, .int z8_23)]) hx hb dX7_hashOfTrail_74 hl (by decide) rfl (fun ls hl => ?_)
                refine lv_iinc (v := (z8_23 + 1)) (lv' := [(8, .int (z8_23 + 1)), (4, .long x4_28), (3, .ref s10), (6, .int z6_14), (7, .int x7_17)]) hx hb dX7_hashOfTrail_76 hl (k := 4) rfl rfl (by decide) rfl (fun ls hl => ?_)
                refine lv_goto (tgt := 51) hx hb dX7_hashOfTrail_79 (by decide) ?_
                exact ih x4_28 (z8_23 + 1) _ _ _ _ hf hP hD hS (lv_sub hl [2, 1, 3, 4, 0] rfl) hr_51 kx_51
          obtain ⟨x4_21, h1_51, hf⟩ := bd1_el hf
          refine hL_51 2147483648 z4_13 0 _ _ _ _ h1_51 hP hD hS (lv_sub hl [2, 3, 4, 1, 0] rfl) trivial (fun x4_219 ho H locs ls hP hD hS hl => ?_)
          cases ho
          refine lv_iinc (v := (z6_14 + (-1))) (lv' := [(6, .int (z6_14 + (-1))), (3, .ref s10), (4, .long x4_21)]) hx hb dX7_hashOfTrail_82 hl (k := 2) rfl rfl (by decide) rfl (fun ls hl => ?_)
          refine lv_goto (tgt := 25) hx hb dX7_hashOfTrail_85 (by decide) ?_
          exact ih x4_21 (z6_14 + (-1)) _ _ _ _ hf hP hD hS (lv_sub hl [1, 2, 0] rfl) hr_25 kx_25
  obtain ⟨x4_12, h1_25, hf⟩ := bd1_el hf
  refine hL_25 2147483648 x4_1 23 _ _ _ _ h1_25 hP hD hS (lv_sub hl [2, 1, 0] rfl) trivial (fun x4_129 ho H locs ls hP hD hS hl => ?_)
  cases ho
  refine lv_lload hx hb dX7_hashOfTrail_88 (lv_at hl 0 rfl) ?_
  have hf := Option.some.inj hf
  cases hf
  exact x_lret hx hb hr hlocks hK hP hD hS dX7_hashOfTrail_90
theorem kdX7_hashOfRanks : yX7_hashOfRanks.cls = RX7 ∧ yX7_hashOfRanks.cls ≠ "java/lang/invoke/MethodHandle" ∧ yX7_hashOfRanks.cls ≠ "java/lang/invoke/VarHandle" ∧ (parseMethodDescriptor yX7_hashOfRanks.desc).map (fun d => d.parameters.length) = some 1 := by decide +kernel
def rmX7_hashOfRanks : Room := { frames := 5, cells := 0, slots := 0, locals := 114 }
set_option maxHeartbeats 4000000 in
set_option maxRecDepth 100000 in
theorem mX7_hashOfRanks (l : Launch) (D : va_G) (cy : Nat → ClassId) (a0 t0 t1 k0 k1 k2 s0 s1 s2 s3 s4 s5 s6 s7 s8 s9 s10 s11 : Nat) (hd : Nat → Nat) (Xle : Int32) (Xch : Nat → Int32) (Xpo : Int32) (Xltr : Int32) (Xfi : Int32) (Xse : Int32) (Xth : Int32) (Ksz : Int32) (Kcl : Nat → Int32) (Kke : Nat → Int32) (Asz : Int32) (Anu : Nat → Int32) (Aba : Nat → Int32) (Amo : Nat → Int32) (Aco : Nat → Int64) (Hsz : Int32) (Hla : Int32) (Hce : Nat → Int32) (Bsz : Int32) (Bla : Int32) (Bce : Nat → Int32) (Tma : Int32) (Tlc : Int32) (Ttc : Nat → Int32) (day : Int32) (lim : Int32) (low : Int32) (hig : Int32) (thr : Int32) (off : Int64) (cre : Int64) (rcp : Int64) (pay : Int64) (sv : Int32) (nx : Int32) (SL : Nat → XS) (p1 : Int64) (r : Int64) (Ksz' : Int32) (Kcl' : Nat → Int32) (Kke' : Nat → Int32) (hf : fX7_hashOfRanks Ksz Kcl Kke Asz Anu Aba Amo Hsz Hce p1 = some (r, Ksz', Kcl', Kke')) : xMl l D cy yX7_hashOfRanks aX7_hashOfRanks rmX7_hashOfRanks ([.ref a0, .long p1] : List Value) (wX7 cy a0 t0 t1 k0 k1 k2 s0 s1 s2 s3 s4 s5 s6 s7 s8 s9 s10 s11 hd Xle Xch Xpo Xltr Xfi Xse Xth Ksz Kcl Kke Asz Anu Aba Amo Aco Hsz Hla Hce Bsz Bla Bce Tma Tlc Ttc day lim low hig thr off cre rcp pay sv nx SL) (wX7 cy a0 t0 t1 k0 k1 k2 s0 s1 s2 s3 s4 s5 s6 s7 s8 s9 s10 s11 hd Xle Xch Xpo Xltr Xfi Xse Xth Ksz' Kcl' Kke' Asz Anu Aba Amo Aco Hsz Hla Hce Bsz Bla Bce Tma Tlc Ttc day lim low hig thr off cre rcp pay sv nx SL) r := by
  intro hz
  refine x_start (Qc := xQl D cy _ r) (cc := cX7_hashOfRanks) (maxL := 7) (ret := (some .long)) (by decide) rfl (Nat.le_of_ble_eq_true rfl) (lv := [(0, .ref a0), (1, .long p1)]) rfl ?_
  intro p e s m below meth c ls A hx hb hr hml hown hts hlocks hK hP hD hS hA hN hl
  have hown : s.vm.findClass RX7 = some m.cls := hown
  have hbg : ∀ w ∈ wsL_law, w ∈ aX7_hashOfRanks := fun w h => List.mem_cons_of_mem _ h
  have wd0 : (Cond.fieldLink RX7 33 "ClientMoneyBook" "ranking" "LClientMoneyBook$Ranking;").before ([.ref a0, .long p1] : List Value).toArray s = true := hts _ (List.mem_cons_of_mem _ wm_1_3)
  have wd1 : (Cond.fieldLink RX7 10 "ClientMoneyBook" "state" "LClientMoneyBook$State;").before ([.ref a0, .long p1] : List Value).toArray s = true := hts _ (List.mem_cons_of_mem _ wm_0_15)
  have wd2 : (Cond.fieldLink RX7 94 "ClientMoneyBook$State" "accounts" "LClientMoneyBook$Accounts;").before ([.ref a0, .long p1] : List Value).toArray s = true := hts _ (List.mem_cons_of_mem _ wm_26_15)
  have wd3 : (Cond.fieldLink RX7 98 "ClientMoneyBook$Accounts" "size" "I").before ([.ref a0, .long p1] : List Value).toArray s = true := hts _ (List.mem_cons_of_mem _ wm_26_16)
  have wd4 : (Cond.constantLong RX7 209 (31)).before ([.ref a0, .long p1] : List Value).toArray s = true := hts _ (List.mem_cons_of_mem _ wm_42_16)
  have iX0 : ∀ w ∈ u_ws RX0 TX0 5, w ∈ aX7_hashOfRanks := fun w h => List.mem_cons_of_mem _ (inlX0 w h)
  have iX5 : ∀ w ∈ u_ws RX5 TX5 13, w ∈ aX7_hashOfRanks := fun w h => List.mem_cons_of_mem _ (inlX5 w h)
  have iX7 : ∀ w ∈ u_ws RX7 TX7 4, w ∈ aX7_hashOfRanks := fun w h => List.mem_cons_of_mem _ (inlX7 w h)
  unfold fX7_hashOfRanks at hf
  refine lv_lload_n hx hb dX7_hashOfRanks_0 rfl (lv_at hl 1 rfl) ?_
  refine lv_lstore_n (lv' := [(3, .long p1), (0, .ref a0), (1, .long p1)]) hx hb dX7_hashOfRanks_1 rfl hl (by decide) rfl (fun ls hl => ?_)
  refine lv_iconst (v := 1) hx hb dX7_hashOfRanks_2 (by decide) ?_
  refine lv_istore (lv' := [(5, .int 1), (3, .long p1), (0, .ref a0), (1, .long p1)]) hx hb dX7_hashOfRanks_3 hl (by decide) rfl (fun ls hl => ?_)
  have hL_5 : ∀ (n : Nat) (Ksz_15 : Int32) (Kcl_16 : Nat → Int32) (Kke_17 : Nat → Int32) (z3_18 : Int64) (z5_19 : Int32) (o : Int32 × (Nat → Int32) × (Nat → Int32) × Int64) (H : Heap) (locs : List Loc) (ls : Array Slot), fX7_hashOfRanks_L5 Asz Anu Aba Amo Hsz Hce n Ksz_15 Kcl_16 Kke_17 z3_18 z5_19 = some o → va_P D vwCl (wX7 cy a0 t0 t1 k0 k1 k2 s0 s1 s2 s3 s4 s5 s6 s7 s8 s9 s10 s11 hd Xle Xch Xpo Xltr Xfi Xse Xth Ksz_15 Kcl_16 Kke_17 Asz Anu Aba Amo Aco Hsz Hla Hce Bsz Bla Bce Tma Tlc Ttc day lim low hig thr off cre rcp pay sv nx SL) H → va_D A (wX7 cy a0 t0 t1 k0 k1 k2 s0 s1 s2 s3 s4 s5 s6 s7 s8 s9 s10 s11 hd Xle Xch Xpo Xltr Xfi Xse Xth Ksz_15 Kcl_16 Kke_17 Asz Anu Aba Amo Aco Hsz Hla Hce Bsz Bla Bce Tma Tlc Ttc day lim low hig thr off cre rcp pay sv nx SL) → va_S A s.heap H locs → lv_has ls 7 [(0, .ref a0), (3, .long z3_18), (5, .int z5_19)] → True → ((∀ (Ksz_20 : Int32) (Kcl_21 : Nat → Int32) (Kke_22 : Nat → Int32) (x3_23 : Int64) , o = (Ksz_20, Kcl_21, Kke_22, x3_23) → ∀ (H : Heap) (locs : List Loc) (ls : Array Slot), va_P D vwCl (wX7 cy a0 t0 t1 k0 k1 k2 s0 s1 s2 s3 s4 s5 s6 s7 s8 s9 s10 s11 hd Xle Xch Xpo Xltr Xfi Xse Xth Ksz_20 Kcl_21 Kke_22 Asz Anu Aba Amo Aco Hsz Hla Hce Bsz Bla Bce Tma Tlc Ttc day lim low hig thr off cre rcp pay sv nx SL) H → va_D A (wX7 cy a0 t0 t1 k0 k1 k2 s0 s1 s2 s3 s4 s5 s6 s7 s8 s9 s10 s11 hd Xle Xch Xpo Xltr Xfi Xse Xth Ksz_20 Kcl_21 Kke_22 Asz Anu Aba Amo Aco Hsz Hla Hce Bsz Bla Bce Tma Tlc Ttc day lim low hig thr off cre rcp pay sv nx SL) → va_S A s.heap H locs → lv_has ls 7 [(3, .long x3_23)] → W p l e rmX7_hashOfRanks s m ([.ref a0, .long p1] : List Value).toArray below meth c H locs 0 0 (MQ below (xQl D cy (wX7 cy a0 t0 t1 k0 k1 k2 s0 s1 s2 s3 s4 s5 s6 s7 s8 s9 s10 s11 hd Xle Xch Xpo Xltr Xfi Xse Xth Ksz' Kcl' Kke' Asz Anu Aba Amo Aco Hsz Hla Hce Bsz Bla Bce Tma Tlc Ttc day lim low hig thr off cre rcp pay sv nx SL) r A) ([.ref a0, .long p1] : List Value).toArray s 0 0 A) (F0 m 71 ls []))) → W p l e rmX7_hashOfRanks s m ([.ref a0, .long p1] : List Value).toArray below meth c H locs 0 0 (MQ below (xQl D cy (wX7 cy a0 t0 t1 k0 k1 k2 s0 s1 s2 s3 s4 s5 s6 s7 s8 s9 s10 s11 hd Xle Xch Xpo Xltr Xfi Xse Xth Ksz' Kcl' Kke' Asz Anu Aba Amo Aco Hsz Hla Hce Bsz Bla Bce Tma Tlc Ttc day lim low hig thr off cre rcp pay sv nx SL) r A) ([.ref a0, .long p1] : List Value).toArray s 0 0 A) (F0 m 5 ls []) := by
    intro n
    induction n with
    | zero =>
      intro Ksz_15 Kcl_16 Kke_17 z3_18 z5_19 o_5 H locs ls hf
      rw [fX7_hashOfRanks_L5] at hf
      cases hf
    | succ n ih =>
      intro Ksz_15 Kcl_16 Kke_17 z3_18 z5_19 o_5 H locs ls hf hP hD hS hl hr_5 kx_5
      rw [fX7_hashOfRanks_L5] at hf
      refine lv_iload hx hb dX7_hashOfRanks_5 (lv_at hl 2 rfl) ?_
      refine lv_iconst (v := 3) hx hb dX7_hashOfRanks_7 (by decide) ?_
      refine lv_icmp_gt (tgt := 71) hx hb dX7_hashOfRanks_8 (by decide) (fun c_24 => ?_) (fun c_24 => ?_)
      · have hf := x_t c_24 hf
        exact kx_5 Ksz_15 Kcl_16 Kke_17 z3_18 (Option.some.inj hf).symm _ _ _ hP hD hS (lv_sub hl [1] rfl)
      · have hf := x_f c_24 hf
        refine lv_aload_n hx hb dX7_hashOfRanks_11 rfl (lv_at hl 0 rfl) ?_
        refine x_get hx hb (C := RX7) (T := TX7) (N := 4) (ci := 7) hts iX7 hown hK hP 0 rfl rfl 3 (by decide) wd0 rfl (.ref k0) rfl dX7_hashOfRanks_12 ?_
        refine lv_aload_n hx hb dX7_hashOfRanks_15 rfl (lv_at hl 0 rfl) ?_
        refine x_get hx hb (C := RX7) (T := TX7) (N := 4) (ci := 7) hts iX7 hown hK hP 0 rfl rfl 0 (by decide) wd1 rfl (.ref s0) rfl dX7_hashOfRanks_16 ?_
        refine lv_iload hx hb dX7_hashOfRanks_19 (lv_at hl 2 rfl) ?_
        obtain ⟨Ksz_25, Kcl_26, Kke_27, h_28, hf⟩ := bd3_el hf
        refine x_callVv (As := [.ref s0, .int z5_19]) (rest := []) ⟨hx, hb, hml, hown, hts⟩ (mX3_sort l D cy k0 k1 k2 s0 s1 s2 s3 s4 s5 s6 s7 s8 s9 s10 s11 Ksz_15 Kcl_16 Kke_17 Asz Anu Aba Amo Aco Hsz Hla Hce Bsz Bla Bce Tma Tlc Ttc day lim low hig thr off cre rcp pay z5_19 Ksz_25 Kcl_26 Kke_27 h_28) (cwV 2 hts (gcV_X3_sort hbg wm_27_1) rfl rfl rfl kdX3_sort ⟨Nat.le_of_ble_eq_true rfl, Nat.le_of_ble_eq_true rfl⟩) (w1 := [(a0, .inr (7, [.ref s0, .ref (hd 0), .ref t0, .ref k0]))] ++ (wX2 cy t0 t1 Xle Xch Xpo Xltr Xfi Xse Xth)) (w2 := wX1 cy hd sv nx SL) (w' := wX7 cy a0 t0 t1 k0 k1 k2 s0 s1 s2 s3 s4 s5 s6 s7 s8 s9 s10 s11 hd Xle Xch Xpo Xltr Xfi Xse Xth Ksz_25 Kcl_26 Kke_27 Asz Anu Aba Amo Aco Hsz Hla Hce Bsz Bla Bce Tma Tlc Ttc day lim low hig thr off cre rcp pay sv nx SL) rfl rfl hP hK hD hN hS hA (q0 := 0) rfl rfl rfl rfl hl rfl (Nat.le_of_ble_eq_true rfl) dX7_hashOfRanks_21 ⟨Nat.zero_le _, Nat.zero_le _⟩ (fun H locs hP hD hS => ?_)
        refine lv_iconst (v := 0) hx hb dX7_hashOfRanks_24 (by decide) ?_
        refine lv_istore (lv' := [(6, .int 0), (0, .ref a0), (3, .long z3_18), (5, .int z5_19)]) hx hb dX7_hashOfRanks_25 hl (by decide) rfl (fun ls hl => ?_)
        have hL_27 : ∀ (n : Nat) (z3_30 : Int64) (z6_31 : Int32) (o : Int64) (H : Heap) (locs : List Loc) (ls : Array Slot), fX7_hashOfRanks_L27 Ksz_25 Kcl_26 Asz z5_19 n z3_30 z6_31 = some o → va_P D vwCl (wX7 cy a0 t0 t1 k0 k1 k2 s0 s1 s2 s3 s4 s5 s6 s7 s8 s9 s10 s11 hd Xle Xch Xpo Xltr Xfi Xse Xth Ksz_25 Kcl_26 Kke_27 Asz Anu Aba Amo Aco Hsz Hla Hce Bsz Bla Bce Tma Tlc Ttc day lim low hig thr off cre rcp pay sv nx SL) H → va_D A (wX7 cy a0 t0 t1 k0 k1 k2 s0 s1 s2 s3 s4 s5 s6 s7 s8 s9 s10 s11 hd Xle Xch Xpo Xltr Xfi Xse Xth Ksz_25 Kcl_26 Kke_27 Asz Anu Aba Amo Aco Hsz Hla Hce Bsz Bla Bce Tma Tlc Ttc day lim low hig thr off cre rcp pay sv nx SL) → va_S A s.heap H locs → lv_has ls 7 [(0, .ref a0), (3, .long z3_30), (5, .int z5_19), (6, .int z6_31)] → True → ((∀ (x3_32 : Int64) , o = x3_32 → ∀ (H : Heap) (locs : List Loc) (ls : Array Slot), va_P D vwCl (wX7 cy a0 t0 t1 k0 k1 k2 s0 s1 s2 s3 s4 s5 s6 s7 s8 s9 s10 s11 hd Xle Xch Xpo Xltr Xfi Xse Xth Ksz_25 Kcl_26 Kke_27 Asz Anu Aba Amo Aco Hsz Hla Hce Bsz Bla Bce Tma Tlc Ttc day lim low hig thr off cre rcp pay sv nx SL) H → va_D A (wX7 cy a0 t0 t1 k0 k1 k2 s0 s1 s2 s3 s4 s5 s6 s7 s8 s9 s10 s11 hd Xle Xch Xpo Xltr Xfi Xse Xth Ksz_25 Kcl_26 Kke_27 Asz Anu Aba Amo Aco Hsz Hla Hce Bsz Bla Bce Tma Tlc Ttc day lim low hig thr off cre rcp pay sv nx SL) → va_S A s.heap H locs → lv_has ls 7 [(0, .ref a0), (3, .long x3_32), (5, .int z5_19)] → W p l e rmX7_hashOfRanks s m ([.ref a0, .long p1] : List Value).toArray below meth c H locs 0 0 (MQ below (xQl D cy (wX7 cy a0 t0 t1 k0 k1 k2 s0 s1 s2 s3 s4 s5 s6 s7 s8 s9 s10 s11 hd Xle Xch Xpo Xltr Xfi Xse Xth Ksz' Kcl' Kke' Asz Anu Aba Amo Aco Hsz Hla Hce Bsz Bla Bce Tma Tlc Ttc day lim low hig thr off cre rcp pay sv nx SL) r A) ([.ref a0, .long p1] : List Value).toArray s 0 0 A) (F0 m 65 ls []))) → W p l e rmX7_hashOfRanks s m ([.ref a0, .long p1] : List Value).toArray below meth c H locs 0 0 (MQ below (xQl D cy (wX7 cy a0 t0 t1 k0 k1 k2 s0 s1 s2 s3 s4 s5 s6 s7 s8 s9 s10 s11 hd Xle Xch Xpo Xltr Xfi Xse Xth Ksz' Kcl' Kke' Asz Anu Aba Amo Aco Hsz Hla Hce Bsz Bla Bce Tma Tlc Ttc day lim low hig thr off cre rcp pay sv nx SL) r A) ([.ref a0, .long p1] : List Value).toArray s 0 0 A) (F0 m 27 ls []) := by
          intro n
          induction n with
          | zero =>
            intro z3_30 z6_31 o_27 H locs ls hf
            rw [fX7_hashOfRanks_L27] at hf
            cases hf
          | succ n ih =>
            intro z3_30 z6_31 o_27 H locs ls hf hP hD hS hl hr_27 kx_27
            rw [fX7_hashOfRanks_L27] at hf
            refine lv_iload hx hb dX7_hashOfRanks_27 (lv_at hl 3 rfl) ?_
            refine lv_aload_n hx hb dX7_hashOfRanks_29 rfl (lv_at hl 0 rfl) ?_
            refine x_get hx hb (C := RX7) (T := TX7) (N := 4) (ci := 7) hts iX7 hown hK hP 0 rfl rfl 0 (by decide) wd1 rfl (.ref s0) rfl dX7_hashOfRanks_30 ?_
            refine x_get hx hb (C := RX5) (T := TX5) (N := 13) (ci := 5) hts iX5 hown hK hP 6 rfl rfl 0 (by decide) wd2 rfl (.ref s1) rfl dX7_hashOfRanks_33 ?_
            refine x_get hx hb (C := RX0) (T := TX0) (N := 5) (ci := 0) hts iX0 hown hK hP 7 rfl rfl 0 (by decide) wd3 rfl (.int Asz) rfl dX7_hashOfRanks_36 ?_
            refine lv_icmp_ge (tgt := 65) hx hb dX7_hashOfRanks_39 (by decide) (fun c_33 => ?_) (fun c_33 => ?_)
            · have hf := x_t c_33 hf
              exact kx_27 z3_30 (Option.some.inj hf).symm _ _ _ hP hD hS (lv_sub hl [0, 1, 2] rfl)
            · have hf := x_f c_33 hf
              refine lv_ldc2 hx hb hown wd4 dX7_hashOfRanks_42 ?_
              refine lv_lload_n hx hb dX7_hashOfRanks_45 rfl (lv_at hl 1 rfl) ?_
              refine lv_lmul hx hb dX7_hashOfRanks_46 ?_
              refine lv_aload_n hx hb dX7_hashOfRanks_47 rfl (lv_at hl 0 rfl) ?_
              refine x_get hx hb (C := RX7) (T := TX7) (N := 4) (ci := 7) hts iX7 hown hK hP 0 rfl rfl 3 (by decide) wd0 rfl (.ref k0) rfl dX7_hashOfRanks_48 ?_
              refine lv_iload hx hb dX7_hashOfRanks_51 (lv_at hl 3 rfl) ?_
              obtain ⟨r_34, h_35, hf⟩ := bd1_el hf
              refine x_callVi (As := [.int z6_31]) (rest := [.long (31 * z3_30)]) ⟨hx, hb, hml, hown, hts⟩ (mX3_clientAt l D cy k0 k1 k2 Ksz_25 Kcl_26 Kke_27 z6_31 r_34 h_35) (cwV 1 hts (gcV_X3_clientAt hbg wm_27_18) rfl rfl rfl kdX3_clientAt ⟨Nat.le_of_ble_eq_true rfl, Nat.le_of_ble_eq_true rfl⟩) (w1 := [(a0, .inr (7, [.ref s0, .ref (hd 0), .ref t0, .ref k0]))] ++ (wX2 cy t0 t1 Xle Xch Xpo Xltr Xfi Xse Xth)) (w2 := wX5 cy s0 s1 s2 s3 s4 s5 s6 s7 s8 s9 s10 s11 Asz Anu Aba Amo Aco Hsz Hla Hce Bsz Bla Bce Tma Tlc Ttc day lim low hig thr off cre rcp pay ++ (wX1 cy hd sv nx SL)) (w' := wX7 cy a0 t0 t1 k0 k1 k2 s0 s1 s2 s3 s4 s5 s6 s7 s8 s9 s10 s11 hd Xle Xch Xpo Xltr Xfi Xse Xth Ksz_25 Kcl_26 Kke_27 Asz Anu Aba Amo Aco Hsz Hla Hce Bsz Bla Bce Tma Tlc Ttc day lim low hig thr off cre rcp pay sv nx SL) rfl rfl hP hK hD hN hS hA (q0 := 0) rfl rfl rfl rfl hl rfl (Nat.le_of_ble_eq_true rfl) dX7_hashOfRanks_53 ⟨Nat.zero_le _, Nat.zero_le _⟩ (fun H locs hP hD hS => ?_)
              refine lv_i2l (v := r_34.toInt64) hx hb dX7_hashOfRanks_56 rfl ?_
              refine lv_ladd hx hb dX7_hashOfRanks_57 ?_
              obtain ⟨x3_36, ex3_36, hf⟩ := lt_el hf
              refine x_topl ex3_36 ?_
              refine lv_lstore_n (lv' := [(3, .long x3_36), (0, .ref a0), (5, .int z5_19), (6, .int z6_31)]) hx hb dX7_hashOfRanks_58 rfl hl (by decide) rfl (fun ls hl => ?_)
              refine lv_iinc (v := (z6_31 + 1)) (lv' := [(6, .int (z6_31 + 1)), (3, .long x3_36), (0, .ref a0), (5, .int z5_19)]) hx hb dX7_hashOfRanks_59 hl (k := 3) rfl rfl (by decide) rfl (fun ls hl => ?_)
              refine lv_goto (tgt := 27) hx hb dX7_hashOfRanks_62 (by decide) ?_
              exact ih x3_36 (z6_31 + 1) _ _ _ _ hf hP hD hS (lv_sub hl [2, 1, 3, 0] rfl) hr_27 kx_27
        obtain ⟨x3_29, h1_27, hf⟩ := bd1_el hf
        refine hL_27 2147483648 z3_18 0 _ _ _ _ h1_27 hP hD hS (lv_sub hl [1, 2, 3, 0] rfl) trivial (fun x3_299 ho H locs ls hP hD hS hl => ?_)
        cases ho
        refine lv_iinc (v := (z5_19 + 1)) (lv' := [(5, .int (z5_19 + 1)), (0, .ref a0), (3, .long x3_29)]) hx hb dX7_hashOfRanks_65 hl (k := 2) rfl rfl (by decide) rfl (fun ls hl => ?_)
        refine lv_goto (tgt := 5) hx hb dX7_hashOfRanks_68 (by decide) ?_
        exact ih Ksz_25 Kcl_26 Kke_27 x3_29 (z5_19 + 1) _ _ _ _ hf hP hD hS (lv_sub hl [1, 2, 0] rfl) hr_5 kx_5
  obtain ⟨Ksz_11, Kcl_12, Kke_13, x3_14, h1_5, hf⟩ := bd4_el hf
  refine hL_5 2147483648 Ksz Kcl Kke p1 1 _ _ _ _ h1_5 hP hD hS (lv_sub hl [2, 1, 0] rfl) trivial (fun Ksz_119 Kcl_129 Kke_139 x3_149 ho H locs ls hP hD hS hl => ?_)
  cases ho
  refine lv_lload_n hx hb dX7_hashOfRanks_71 rfl (lv_at hl 0 rfl) ?_
  have hf := Option.some.inj hf
  cases hf
  exact x_lret hx hb hr hlocks hK hP hD hS dX7_hashOfRanks_72
theorem kdX7_digest : yX7_digest.cls = RX7 ∧ yX7_digest.cls ≠ "java/lang/invoke/MethodHandle" ∧ yX7_digest.cls ≠ "java/lang/invoke/VarHandle" ∧ (parseMethodDescriptor yX7_digest.desc).map (fun d => d.parameters.length) = some 0 := by decide +kernel
def rmX7_digest : Room := { frames := 6, cells := 0, slots := 0, locals := 140 }
set_option maxHeartbeats 4000000 in
set_option maxRecDepth 100000 in
theorem mX7_digest (l : Launch) (D : va_G) (cy : Nat → ClassId) (a0 t0 t1 k0 k1 k2 s0 s1 s2 s3 s4 s5 s6 s7 s8 s9 s10 s11 : Nat) (hd : Nat → Nat) (Xle : Int32) (Xch : Nat → Int32) (Xpo : Int32) (Xltr : Int32) (Xfi : Int32) (Xse : Int32) (Xth : Int32) (Ksz : Int32) (Kcl : Nat → Int32) (Kke : Nat → Int32) (Asz : Int32) (Anu : Nat → Int32) (Aba : Nat → Int32) (Amo : Nat → Int32) (Aco : Nat → Int64) (Hsz : Int32) (Hla : Int32) (Hce : Nat → Int32) (Bsz : Int32) (Bla : Int32) (Bce : Nat → Int32) (Tma : Int32) (Tlc : Int32) (Ttc : Nat → Int32) (day : Int32) (lim : Int32) (low : Int32) (hig : Int32) (thr : Int32) (off : Int64) (cre : Int64) (rcp : Int64) (pay : Int64) (sv : Int32) (nx : Int32) (SL : Nat → XS)  (r : Int64) (Ksz' : Int32) (Kcl' : Nat → Int32) (Kke' : Nat → Int32) (hf : fX7_digest Ksz Kcl Kke Asz Anu Aba Amo Aco Hsz Hce Bsz Bce Tma Ttc day off cre rcp pay = some (r, Ksz', Kcl', Kke')) : xMl l D cy yX7_digest aX7_digest rmX7_digest ([.ref a0] : List Value) (wX7 cy a0 t0 t1 k0 k1 k2 s0 s1 s2 s3 s4 s5 s6 s7 s8 s9 s10 s11 hd Xle Xch Xpo Xltr Xfi Xse Xth Ksz Kcl Kke Asz Anu Aba Amo Aco Hsz Hla Hce Bsz Bla Bce Tma Tlc Ttc day lim low hig thr off cre rcp pay sv nx SL) (wX7 cy a0 t0 t1 k0 k1 k2 s0 s1 s2 s3 s4 s5 s6 s7 s8 s9 s10 s11 hd Xle Xch Xpo Xltr Xfi Xse Xth Ksz' Kcl' Kke' Asz Anu Aba Amo Aco Hsz Hla Hce Bsz Bla Bce Tma Tlc Ttc day lim low hig thr off cre rcp pay sv nx SL) r := by
  intro hz
  refine x_start (Qc := xQl D cy _ r) (cc := cX7_digest) (maxL := 4) (ret := (some .long)) (by decide) rfl (Nat.le_of_ble_eq_true rfl) (lv := [(0, .ref a0)]) rfl ?_
  intro p e s m below meth c ls A hx hb hr hml hown hts hlocks hK hP hD hS hA hN hl
  have hown : s.vm.findClass RX7 = some m.cls := hown
  have hbg : ∀ w ∈ wsL_law, w ∈ aX7_digest := fun w h => List.mem_cons_of_mem _ h
  have wd0 : (Cond.constantLong RX7 207 (6262)).before ([.ref a0] : List Value).toArray s = true := hts _ (List.mem_cons_of_mem _ wm_42_15)
  have wd1 : (Cond.fieldLink RX7 10 "ClientMoneyBook" "state" "LClientMoneyBook$State;").before ([.ref a0] : List Value).toArray s = true := hts _ (List.mem_cons_of_mem _ wm_0_15)
  have wd2 : (Cond.fieldLink RX7 90 "ClientMoneyBook$State" "day" "I").before ([.ref a0] : List Value).toArray s = true := hts _ (List.mem_cons_of_mem _ wm_26_6)
  have wd3 : (Cond.constantLong RX7 209 (31)).before ([.ref a0] : List Value).toArray s = true := hts _ (List.mem_cons_of_mem _ wm_42_16)
  have wd4 : (Cond.fieldLink RX7 94 "ClientMoneyBook$State" "accounts" "LClientMoneyBook$Accounts;").before ([.ref a0] : List Value).toArray s = true := hts _ (List.mem_cons_of_mem _ wm_26_15)
  have wd5 : (Cond.fieldLink RX7 98 "ClientMoneyBook$Accounts" "size" "I").before ([.ref a0] : List Value).toArray s = true := hts _ (List.mem_cons_of_mem _ wm_26_16)
  have wd6 : (Cond.fieldLink RX7 116 "ClientMoneyBook$State" "holds" "LClientMoneyBook$Rows;").before ([.ref a0] : List Value).toArray s = true := hts _ (List.mem_cons_of_mem _ wm_29_18)
  have wd7 : (Cond.fieldLink RX7 124 "ClientMoneyBook$State" "bills" "LClientMoneyBook$Rows;").before ([.ref a0] : List Value).toArray s = true := hts _ (List.mem_cons_of_mem _ wm_30_8)
  have iX0 : ∀ w ∈ u_ws RX0 TX0 5, w ∈ aX7_digest := fun w h => List.mem_cons_of_mem _ (inlX0 w h)
  have iX5 : ∀ w ∈ u_ws RX5 TX5 13, w ∈ aX7_digest := fun w h => List.mem_cons_of_mem _ (inlX5 w h)
  have iX7 : ∀ w ∈ u_ws RX7 TX7 4, w ∈ aX7_digest := fun w h => List.mem_cons_of_mem _ (inlX7 w h)
  unfold fX7_digest at hf
  refine lv_ldc2 hx hb hown wd0 dX7_digest_0 ?_
  refine lv_aload_n hx hb dX7_digest_3 rfl (lv_at hl 0 rfl) ?_
  refine x_get hx hb (C := RX7) (T := TX7) (N := 4) (ci := 7) hts iX7 hown hK hP 0 rfl rfl 0 (by decide) wd1 rfl (.ref s0) rfl dX7_digest_4 ?_
  refine x_get hx hb (C := RX5) (T := TX5) (N := 13) (ci := 5) hts iX5 hown hK hP 6 rfl rfl 4 (by decide) wd2 rfl (.int day) rfl dX7_digest_7 ?_
  refine lv_i2l (v := day.toInt64) hx hb dX7_digest_10 rfl ?_
  refine lv_ladd hx hb dX7_digest_11 ?_
  obtain ⟨x1_1, ex1_1, hf⟩ := lt_el hf
  refine x_topl ex1_1 ?_
  refine lv_lstore_n (lv' := [(1, .long x1_1), (0, .ref a0)]) hx hb dX7_digest_12 rfl hl (by decide) rfl (fun ls hl => ?_)
  refine lv_ldc2 hx hb hown wd3 dX7_digest_13 ?_
  refine lv_lload_n hx hb dX7_digest_16 rfl (lv_at hl 0 rfl) ?_
  refine lv_lmul hx hb dX7_digest_17 ?_
  refine lv_aload_n hx hb dX7_digest_18 rfl (lv_at hl 1 rfl) ?_
  refine x_get hx hb (C := RX7) (T := TX7) (N := 4) (ci := 7) hts iX7 hown hK hP 0 rfl rfl 0 (by decide) wd1 rfl (.ref s0) rfl dX7_digest_19 ?_
  refine x_get hx hb (C := RX5) (T := TX5) (N := 13) (ci := 5) hts iX5 hown hK hP 6 rfl rfl 0 (by decide) wd4 rfl (.ref s1) rfl dX7_digest_22 ?_
  refine x_get hx hb (C := RX0) (T := TX0) (N := 5) (ci := 0) hts iX0 hown hK hP 7 rfl rfl 0 (by decide) wd5 rfl (.int Asz) rfl dX7_digest_25 ?_
  refine lv_i2l (v := Asz.toInt64) hx hb dX7_digest_28 rfl ?_
  refine lv_ladd hx hb dX7_digest_29 ?_
  obtain ⟨x1_2, ex1_2, hf⟩ := lt_el hf
  refine x_topl ex1_2 ?_
  refine lv_lstore_n (lv' := [(1, .long x1_2), (0, .ref a0)]) hx hb dX7_digest_30 rfl hl (by decide) rfl (fun ls hl => ?_)
  refine lv_aload_n hx hb dX7_digest_31 rfl (lv_at hl 1 rfl) ?_
  refine lv_lload_n hx hb dX7_digest_32 rfl (lv_at hl 0 rfl) ?_
  obtain ⟨r_3, h_4, hf⟩ := bd1_el hf
  refine x_callVl (As := [.long x1_2]) (rest := []) ⟨hx, hb, hml, hown, hts⟩ (mX7_hashOfClients l D cy a0 t0 t1 k0 k1 k2 s0 s1 s2 s3 s4 s5 s6 s7 s8 s9 s10 s11 hd Xle Xch Xpo Xltr Xfi Xse Xth Ksz Kcl Kke Asz Anu Aba Amo Aco Hsz Hla Hce Bsz Bla Bce Tma Tlc Ttc day lim low hig thr off cre rcp pay sv nx SL x1_2 r_3 h_4) (cwV 1 hts (gcV_X7_hashOfClients hbg wm_42_17) rfl rfl rfl kdX7_hashOfClients ⟨Nat.le_of_ble_eq_true rfl, Nat.le_of_ble_eq_true rfl⟩) (w1 := []) (w2 := []) (w' := wX7 cy a0 t0 t1 k0 k1 k2 s0 s1 s2 s3 s4 s5 s6 s7 s8 s9 s10 s11 hd Xle Xch Xpo Xltr Xfi Xse Xth Ksz Kcl Kke Asz Anu Aba Amo Aco Hsz Hla Hce Bsz Bla Bce Tma Tlc Ttc day lim low hig thr off cre rcp pay sv nx SL) (List.append_nil _) (List.append_nil _) hP hK hD hN hS hA (q0 := 0) rfl rfl rfl rfl hl rfl (Nat.le_of_ble_eq_true rfl) dX7_digest_33 ⟨Nat.zero_le _, Nat.zero_le _⟩ (fun H locs hP hD hS => ?_)
  refine lv_lstore_n (lv' := [(1, .long r_3), (0, .ref a0)]) hx hb dX7_digest_36 rfl hl (by decide) rfl (fun ls hl => ?_)
  refine lv_lload_n hx hb dX7_digest_37 rfl (lv_at hl 0 rfl) ?_
  refine lv_aload_n hx hb dX7_digest_38 rfl (lv_at hl 1 rfl) ?_
  refine x_get hx hb (C := RX7) (T := TX7) (N := 4) (ci := 7) hts iX7 hown hK hP 0 rfl rfl 0 (by decide) wd1 rfl (.ref s0) rfl dX7_digest_39 ?_
  refine x_get hx hb (C := RX5) (T := TX5) (N := 13) (ci := 5) hts iX5 hown hK hP 6 rfl rfl 1 (by decide) wd6 rfl (.ref s6) rfl dX7_digest_42 ?_
  obtain ⟨r_5, h_6, hf⟩ := bd1_el hf
  refine x_callSl (As := [.long r_3, .ref s6]) (rest := []) ⟨hx, hb, hml, hown, hts⟩ (mX7_hashOfRows l D cy s6 s7 Hsz Hla Hce r_3 r_5 h_6) (va_cwS 2 hts (gcS_X7_hashOfRows hbg wm_42_22) rfl rfl rfl kdX7_hashOfRows ⟨Nat.le_of_ble_eq_true rfl, Nat.le_of_ble_eq_true rfl⟩) (w1 := [(a0, .inr (7, [.ref s0, .ref (hd 0), .ref t0, .ref k0]))] ++ (wX2 cy t0 t1 Xle Xch Xpo Xltr Xfi Xse Xth ++ (wX3 cy k0 k1 k2 Ksz Kcl Kke ++ ([(s0, .inr (5, [.ref s1, .ref s6, .ref s8, .ref s10, .int day, .int lim, .int low, .int hig, .int thr, .long off, .long cre, .long rcp, .long pay]))] ++ (wX0 cy s1 s2 s3 s4 s5 Asz Anu Aba Amo Aco))))) (w2 := wX4 cy s8 s9 Bsz Bla Bce ++ (wX6 cy s10 s11 Tma Tlc Ttc ++ (wX1 cy hd sv nx SL))) (w' := wX7 cy a0 t0 t1 k0 k1 k2 s0 s1 s2 s3 s4 s5 s6 s7 s8 s9 s10 s11 hd Xle Xch Xpo Xltr Xfi Xse Xth Ksz Kcl Kke Asz Anu Aba Amo Aco Hsz Hla Hce Bsz Bla Bce Tma Tlc Ttc day lim low hig thr off cre rcp pay sv nx SL) rfl rfl hP hK hD hN hS hA rfl hl rfl (Nat.le_of_ble_eq_true rfl) dX7_digest_45 ⟨Nat.zero_le _, Nat.zero_le _⟩ (fun H locs hP hD hS => ?_)
  refine lv_lstore_n (lv' := [(1, .long r_5), (0, .ref a0)]) hx hb dX7_digest_48 rfl hl (by decide) rfl (fun ls hl => ?_)
  refine lv_lload_n hx hb dX7_digest_49 rfl (lv_at hl 0 rfl) ?_
  refine lv_aload_n hx hb dX7_digest_50 rfl (lv_at hl 1 rfl) ?_
  refine x_get hx hb (C := RX7) (T := TX7) (N := 4) (ci := 7) hts iX7 hown hK hP 0 rfl rfl 0 (by decide) wd1 rfl (.ref s0) rfl dX7_digest_51 ?_
  refine x_get hx hb (C := RX5) (T := TX5) (N := 13) (ci := 5) hts iX5 hown hK hP 6 rfl rfl 2 (by decide) wd7 rfl (.ref s8) rfl dX7_digest_54 ?_
  obtain ⟨r_7, h_8, hf⟩ := bd1_el hf
  refine x_callSl (As := [.long r_5, .ref s8]) (rest := []) ⟨hx, hb, hml, hown, hts⟩ (mX7_hashOfRows l D cy s8 s9 Bsz Bla Bce r_5 r_7 h_8) (va_cwS 2 hts (gcS_X7_hashOfRows hbg wm_42_22) rfl rfl rfl kdX7_hashOfRows ⟨Nat.le_of_ble_eq_true rfl, Nat.le_of_ble_eq_true rfl⟩) (w1 := [(a0, .inr (7, [.ref s0, .ref (hd 0), .ref t0, .ref k0]))] ++ (wX2 cy t0 t1 Xle Xch Xpo Xltr Xfi Xse Xth ++ (wX3 cy k0 k1 k2 Ksz Kcl Kke ++ ([(s0, .inr (5, [.ref s1, .ref s6, .ref s8, .ref s10, .int day, .int lim, .int low, .int hig, .int thr, .long off, .long cre, .long rcp, .long pay]))] ++ (wX0 cy s1 s2 s3 s4 s5 Asz Anu Aba Amo Aco ++ (wX4 cy s6 s7 Hsz Hla Hce)))))) (w2 := wX6 cy s10 s11 Tma Tlc Ttc ++ (wX1 cy hd sv nx SL)) (w' := wX7 cy a0 t0 t1 k0 k1 k2 s0 s1 s2 s3 s4 s5 s6 s7 s8 s9 s10 s11 hd Xle Xch Xpo Xltr Xfi Xse Xth Ksz Kcl Kke Asz Anu Aba Amo Aco Hsz Hla Hce Bsz Bla Bce Tma Tlc Ttc day lim low hig thr off cre rcp pay sv nx SL) rfl rfl hP hK hD hN hS hA rfl hl rfl (Nat.le_of_ble_eq_true rfl) dX7_digest_57 ⟨Nat.zero_le _, Nat.zero_le _⟩ (fun H locs hP hD hS => ?_)
  refine lv_lstore_n (lv' := [(1, .long r_7), (0, .ref a0)]) hx hb dX7_digest_60 rfl hl (by decide) rfl (fun ls hl => ?_)
  refine lv_aload_n hx hb dX7_digest_61 rfl (lv_at hl 1 rfl) ?_
  refine lv_lload_n hx hb dX7_digest_62 rfl (lv_at hl 0 rfl) ?_
  obtain ⟨r_9, h_10, hf⟩ := bd1_el hf
  refine x_callVl (As := [.long r_7]) (rest := []) ⟨hx, hb, hml, hown, hts⟩ (mX7_hashOfTrail l D cy a0 t0 t1 k0 k1 k2 s0 s1 s2 s3 s4 s5 s6 s7 s8 s9 s10 s11 hd Xle Xch Xpo Xltr Xfi Xse Xth Ksz Kcl Kke Asz Anu Aba Amo Aco Hsz Hla Hce Bsz Bla Bce Tma Tlc Ttc day lim low hig thr off cre rcp pay sv nx SL r_7 r_9 h_10) (cwV 1 hts (gcV_X7_hashOfTrail hbg wm_43_2) rfl rfl rfl kdX7_hashOfTrail ⟨Nat.le_of_ble_eq_true rfl, Nat.le_of_ble_eq_true rfl⟩) (w1 := []) (w2 := []) (w' := wX7 cy a0 t0 t1 k0 k1 k2 s0 s1 s2 s3 s4 s5 s6 s7 s8 s9 s10 s11 hd Xle Xch Xpo Xltr Xfi Xse Xth Ksz Kcl Kke Asz Anu Aba Amo Aco Hsz Hla Hce Bsz Bla Bce Tma Tlc Ttc day lim low hig thr off cre rcp pay sv nx SL) (List.append_nil _) (List.append_nil _) hP hK hD hN hS hA (q0 := 0) rfl rfl rfl rfl hl rfl (Nat.le_of_ble_eq_true rfl) dX7_digest_63 ⟨Nat.zero_le _, Nat.zero_le _⟩ (fun H locs hP hD hS => ?_)
  refine lv_lstore_n (lv' := [(1, .long r_9), (0, .ref a0)]) hx hb dX7_digest_66 rfl hl (by decide) rfl (fun ls hl => ?_)
  refine lv_aload_n hx hb dX7_digest_67 rfl (lv_at hl 1 rfl) ?_
  refine lv_lload_n hx hb dX7_digest_68 rfl (lv_at hl 0 rfl) ?_
  obtain ⟨r_11, Ksz_12, Kcl_13, Kke_14, h_15, hf⟩ := bd4_el hf
  refine x_callVl (As := [.long r_9]) (rest := []) ⟨hx, hb, hml, hown, hts⟩ (mX7_hashOfRanks l D cy a0 t0 t1 k0 k1 k2 s0 s1 s2 s3 s4 s5 s6 s7 s8 s9 s10 s11 hd Xle Xch Xpo Xltr Xfi Xse Xth Ksz Kcl Kke Asz Anu Aba Amo Aco Hsz Hla Hce Bsz Bla Bce Tma Tlc Ttc day lim low hig thr off cre rcp pay sv nx SL r_9 r_11 Ksz_12 Kcl_13 Kke_14 h_15) (cwV 1 hts (gcV_X7_hashOfRanks hbg wm_43_6) rfl rfl rfl kdX7_hashOfRanks ⟨Nat.le_of_ble_eq_true rfl, Nat.le_of_ble_eq_true rfl⟩) (w1 := []) (w2 := []) (w' := wX7 cy a0 t0 t1 k0 k1 k2 s0 s1 s2 s3 s4 s5 s6 s7 s8 s9 s10 s11 hd Xle Xch Xpo Xltr Xfi Xse Xth Ksz_12 Kcl_13 Kke_14 Asz Anu Aba Amo Aco Hsz Hla Hce Bsz Bla Bce Tma Tlc Ttc day lim low hig thr off cre rcp pay sv nx SL) (List.append_nil _) (List.append_nil _) hP hK hD hN hS hA (q0 := 0) rfl rfl rfl rfl hl rfl (Nat.le_of_ble_eq_true rfl) dX7_digest_69 ⟨Nat.zero_le _, Nat.zero_le _⟩ (fun H locs hP hD hS => ?_)
  refine lv_lstore_n (lv' := [(1, .long r_11), (0, .ref a0)]) hx hb dX7_digest_72 rfl hl (by decide) rfl (fun ls hl => ?_)
  refine lv_iconst (v := 0) hx hb dX7_digest_73 (by decide) ?_
  refine lv_istore_n (lv' := [(3, .int 0), (1, .long r_11), (0, .ref a0)]) hx hb dX7_digest_74 rfl hl (by decide) rfl (fun ls hl => ?_)
  have hL_75 : ∀ (n : Nat) (z1_21 : Int64) (z3_22 : Int32) (o : Int64) (H : Heap) (locs : List Loc) (ls : Array Slot), fX7_digest_L75 Asz Aba Hsz Hce off cre rcp pay n z1_21 z3_22 = some o → va_P D vwCl (wX7 cy a0 t0 t1 k0 k1 k2 s0 s1 s2 s3 s4 s5 s6 s7 s8 s9 s10 s11 hd Xle Xch Xpo Xltr Xfi Xse Xth Ksz_12 Kcl_13 Kke_14 Asz Anu Aba Amo Aco Hsz Hla Hce Bsz Bla Bce Tma Tlc Ttc day lim low hig thr off cre rcp pay sv nx SL) H → va_D A (wX7 cy a0 t0 t1 k0 k1 k2 s0 s1 s2 s3 s4 s5 s6 s7 s8 s9 s10 s11 hd Xle Xch Xpo Xltr Xfi Xse Xth Ksz_12 Kcl_13 Kke_14 Asz Anu Aba Amo Aco Hsz Hla Hce Bsz Bla Bce Tma Tlc Ttc day lim low hig thr off cre rcp pay sv nx SL) → va_S A s.heap H locs → lv_has ls 4 [(0, .ref a0), (1, .long z1_21), (3, .int z3_22)] → True → ((∀ (x1_23 : Int64) , o = x1_23 → ∀ (H : Heap) (locs : List Loc) (ls : Array Slot), va_P D vwCl (wX7 cy a0 t0 t1 k0 k1 k2 s0 s1 s2 s3 s4 s5 s6 s7 s8 s9 s10 s11 hd Xle Xch Xpo Xltr Xfi Xse Xth Ksz_12 Kcl_13 Kke_14 Asz Anu Aba Amo Aco Hsz Hla Hce Bsz Bla Bce Tma Tlc Ttc day lim low hig thr off cre rcp pay sv nx SL) H → va_D A (wX7 cy a0 t0 t1 k0 k1 k2 s0 s1 s2 s3 s4 s5 s6 s7 s8 s9 s10 s11 hd Xle Xch Xpo Xltr Xfi Xse Xth Ksz_12 Kcl_13 Kke_14 Asz Anu Aba Amo Aco Hsz Hla Hce Bsz Bla Bce Tma Tlc Ttc day lim low hig thr off cre rcp pay sv nx SL) → va_S A s.heap H locs → lv_has ls 4 [(1, .long x1_23)] → W p l e rmX7_digest s m ([.ref a0] : List Value).toArray below meth c H locs 0 0 (MQ below (xQl D cy (wX7 cy a0 t0 t1 k0 k1 k2 s0 s1 s2 s3 s4 s5 s6 s7 s8 s9 s10 s11 hd Xle Xch Xpo Xltr Xfi Xse Xth Ksz' Kcl' Kke' Asz Anu Aba Amo Aco Hsz Hla Hce Bsz Bla Bce Tma Tlc Ttc day lim low hig thr off cre rcp pay sv nx SL) r A) ([.ref a0] : List Value).toArray s 0 0 A) (F0 m 98 ls []))) → W p l e rmX7_digest s m ([.ref a0] : List Value).toArray below meth c H locs 0 0 (MQ below (xQl D cy (wX7 cy a0 t0 t1 k0 k1 k2 s0 s1 s2 s3 s4 s5 s6 s7 s8 s9 s10 s11 hd Xle Xch Xpo Xltr Xfi Xse Xth Ksz' Kcl' Kke' Asz Anu Aba Amo Aco Hsz Hla Hce Bsz Bla Bce Tma Tlc Ttc day lim low hig thr off cre rcp pay sv nx SL) r A) ([.ref a0] : List Value).toArray s 0 0 A) (F0 m 75 ls []) := by
    intro n
    induction n with
    | zero =>
      intro z1_21 z3_22 o_75 H locs ls hf
      rw [fX7_digest_L75] at hf
      cases hf
    | succ n ih =>
      intro z1_21 z3_22 o_75 H locs ls hf hP hD hS hl hr_75 kx_75
      rw [fX7_digest_L75] at hf
      refine lv_iload_n hx hb dX7_digest_75 rfl (lv_at hl 2 rfl) ?_
      refine lv_iconst (v := 5) hx hb dX7_digest_76 (by decide) ?_
      refine lv_icmp_gt (tgt := 98) hx hb dX7_digest_77 (by decide) (fun c_24 => ?_) (fun c_24 => ?_)
      · have hf := x_t c_24 hf
        exact kx_75 z1_21 (Option.some.inj hf).symm _ _ _ hP hD hS (lv_sub hl [1] rfl)
      · have hf := x_f c_24 hf
        refine lv_ldc2 hx hb hown wd3 dX7_digest_80 ?_
        refine lv_lload_n hx hb dX7_digest_83 rfl (lv_at hl 1 rfl) ?_
        refine lv_lmul hx hb dX7_digest_84 ?_
        refine lv_aload_n hx hb dX7_digest_85 rfl (lv_at hl 0 rfl) ?_
        refine lv_iload_n hx hb dX7_digest_86 rfl (lv_at hl 2 rfl) ?_
        obtain ⟨r_25, h_26, hf⟩ := bd1_el hf
        refine x_callVl (As := [.int z3_22]) (rest := [.long (31 * z1_21)]) ⟨hx, hb, hml, hown, hts⟩ (mX7_sum l D cy a0 t0 t1 k0 k1 k2 s0 s1 s2 s3 s4 s5 s6 s7 s8 s9 s10 s11 hd Xle Xch Xpo Xltr Xfi Xse Xth Ksz_12 Kcl_13 Kke_14 Asz Anu Aba Amo Aco Hsz Hla Hce Bsz Bla Bce Tma Tlc Ttc day lim low hig thr off cre rcp pay sv nx SL z3_22 r_25 h_26) (cwV 1 hts (gcV_X7_sum hbg wm_43_10) rfl rfl rfl kdX7_sum ⟨Nat.le_of_ble_eq_true rfl, Nat.le_of_ble_eq_true rfl⟩) (w1 := []) (w2 := []) (w' := wX7 cy a0 t0 t1 k0 k1 k2 s0 s1 s2 s3 s4 s5 s6 s7 s8 s9 s10 s11 hd Xle Xch Xpo Xltr Xfi Xse Xth Ksz_12 Kcl_13 Kke_14 Asz Anu Aba Amo Aco Hsz Hla Hce Bsz Bla Bce Tma Tlc Ttc day lim low hig thr off cre rcp pay sv nx SL) (List.append_nil _) (List.append_nil _) hP hK hD hN hS hA (q0 := 0) rfl rfl rfl rfl hl rfl (Nat.le_of_ble_eq_true rfl) dX7_digest_87 ⟨Nat.zero_le _, Nat.zero_le _⟩ (fun H locs hP hD hS => ?_)
        refine lv_ladd hx hb dX7_digest_90 ?_
        obtain ⟨x1_27, ex1_27, hf⟩ := lt_el hf
        refine x_topl ex1_27 ?_
        refine lv_lstore_n (lv' := [(1, .long x1_27), (0, .ref a0), (3, .int z3_22)]) hx hb dX7_digest_91 rfl hl (by decide) rfl (fun ls hl => ?_)
        refine lv_iinc (v := (z3_22 + 1)) (lv' := [(3, .int (z3_22 + 1)), (1, .long x1_27), (0, .ref a0)]) hx hb dX7_digest_92 hl (k := 2) rfl rfl (by decide) rfl (fun ls hl => ?_)
        refine lv_goto (tgt := 75) hx hb dX7_digest_95 (by decide) ?_
        exact ih x1_27 (z3_22 + 1) _ _ _ _ hf hP hD hS (lv_sub hl [2, 1, 0] rfl) hr_75 kx_75
  obtain ⟨x1_20, h1_75, hf⟩ := bd1_el hf
  refine hL_75 2147483648 r_11 0 _ _ _ _ h1_75 hP hD hS (lv_sub hl [2, 1, 0] rfl) trivial (fun x1_209 ho H locs ls hP hD hS hl => ?_)
  cases ho
  refine lv_lload_n hx hb dX7_digest_98 rfl (lv_at hl 0 rfl) ?_
  have hf := Option.some.inj hf
  cases hf
  exact x_lret hx hb hr hlocks hK hP hD hS dX7_digest_99
