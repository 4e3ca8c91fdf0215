theorem kdX7_keptUnlessError : yX7_keptUnlessError.cls = RX7 ∧ yX7_keptUnlessError.cls ≠ "java/lang/invoke/MethodHandle" ∧ yX7_keptUnlessError.cls ≠ "java/lang/invoke/VarHandle" ∧ (parseMethodDescriptor yX7_keptUnlessError.desc).map (fun d => d.parameters.length) = some 1 := by decide +kernel
def rmX7_keptUnlessError : Room := { frames := 2, cells := 0, slots := 0, locals := 43 }
set_option maxHeartbeats 4000000 in
set_option maxRecDepth 100000 in
theorem mX7_keptUnlessError (l : Launch) (D : va_G) (cy : Nat → ClassId) (a0 t0 t1 k0 k1 k2 s0 s1 s2 s3 s4 s5 s6 s7 s8 s9 s10 s11 : Nat) (hd : Nat → Nat) (Xle : Int32) (Xch : Nat → Int32) (Xpo : Int32) (Xltr : Int32) (Xfi : Int32) (Xse : Int32) (Xth : Int32) (Ksz : Int32) (Kcl : Nat → Int32) (Kke : Nat → Int32) (Asz : Int32) (Anu : Nat → Int32) (Aba : Nat → Int32) (Amo : Nat → Int32) (Aco : Nat → Int64) (Hsz : Int32) (Hla : Int32) (Hce : Nat → Int32) (Bsz : Int32) (Bla : Int32) (Bce : Nat → Int32) (Tma : Int32) (Tlc : Int32) (Ttc : Nat → Int32) (day : Int32) (lim : Int32) (low : Int32) (hig : Int32) (thr : Int32) (off : Int64) (cre : Int64) (rcp : Int64) (pay : Int64) (sv : Int32) (nx : Int32) (SL : Nat → XS) (p1 : Int32) (r : Int32) (sv' : Int32) (nx' : Int32) (hf : fX7_keptUnlessError sv nx p1 = some (r, sv', nx')) : xMi l D cy yX7_keptUnlessError aX7_keptUnlessError rmX7_keptUnlessError ([.ref a0, .int p1] : List Value) (wX7 cy a0 t0 t1 k0 k1 k2 s0 s1 s2 s3 s4 s5 s6 s7 s8 s9 s10 s11 hd Xle Xch Xpo Xltr Xfi Xse Xth Ksz Kcl Kke Asz Anu Aba Amo Aco Hsz Hla Hce Bsz Bla Bce Tma Tlc Ttc day lim low hig thr off cre rcp pay sv nx SL) (wX7 cy a0 t0 t1 k0 k1 k2 s0 s1 s2 s3 s4 s5 s6 s7 s8 s9 s10 s11 hd Xle Xch Xpo Xltr Xfi Xse Xth Ksz Kcl Kke Asz Anu Aba Amo Aco Hsz Hla Hce Bsz Bla Bce Tma Tlc Ttc day lim low hig thr off cre rcp pay sv' nx' SL) r := by
  intro hz
  refine x_start (Qc := xQi D cy _ r) (cc := cX7_keptUnlessError) (maxL := 2) (ret := (some .int)) (by decide) rfl (Nat.le_of_ble_eq_true rfl) (lv := [(0, .ref a0), (1, .int p1)]) rfl ?_
  intro p e s m below meth c ls A hx hb hr hml hown hts hlocks hK hP hD hS hA hN hl
  have hown : s.vm.findClass RX7 = some m.cls := hown
  have hbg : ∀ w ∈ wsL_law, w ∈ aX7_keptUnlessError := fun w h => List.mem_cons_of_mem _ h
  have wd0 : (Cond.fieldLink RX7 19 "ClientMoneyBook" "history" "LClientMoneyBook$History;").before ([.ref a0, .int p1] : List Value).toArray s = true := hts _ (List.mem_cons_of_mem _ wm_1_5)
  have iX7 : ∀ w ∈ u_ws RX7 TX7 4, w ∈ aX7_keptUnlessError := fun w h => List.mem_cons_of_mem _ (inlX7 w h)
  unfold fX7_keptUnlessError at hf
  refine lv_iload_n hx hb dX7_keptUnlessError_0 rfl (lv_at hl 1 rfl) ?_
  refine lv_if_lt (tgt := 11) hx hb dX7_keptUnlessError_1 (by decide) (fun c_1 => ?_) (fun c_1 => ?_)
  · have hf := x_t c_1 hf
    refine lv_iload_n hx hb dX7_keptUnlessError_11 rfl (lv_at hl 1 rfl) ?_
    have hf := Option.some.inj hf
    cases hf
    exact x_iret hx hb hr hlocks hK hP hD hS dX7_keptUnlessError_12
  · have hf := x_f c_1 hf
    refine lv_aload_n hx hb dX7_keptUnlessError_4 rfl (lv_at hl 0 rfl) ?_
    refine x_get hx hb (C := RX7) (T := TX7) (N := 4) (ci := 7) hts iX7 hown hK hP 0 rfl rfl 1 (by decide) wd0 rfl (.ref (hd 0)) rfl dX7_keptUnlessError_5 ?_
    obtain ⟨sv_2, nx_3, h_4, hf⟩ := bd2_el hf
    refine x_callVv (As := []) (rest := []) ⟨hx, hb, hml, hown, hts⟩ (mX1_keep l D cy hd sv nx SL  sv_2 nx_3 h_4) (cwV 0 hts (gcV_X1_keep hbg wm_7_14) rfl rfl rfl kdX1_keep ⟨Nat.le_of_ble_eq_true rfl, Nat.le_of_ble_eq_true rfl⟩) (w1 := [(a0, .inr (7, [.ref s0, .ref (hd 0), .ref t0, .ref k0]))] ++ (wX2 cy t0 t1 Xle Xch Xpo Xltr Xfi Xse Xth ++ (wX3 cy k0 k1 k2 Ksz Kcl Kke ++ (wX5 cy s0 s1 s2 s3 s4 s5 s6 s7 s8 s9 s10 s11 Asz Anu Aba Amo Aco Hsz Hla Hce Bsz Bla Bce Tma Tlc Ttc day lim low hig thr off cre rcp pay)))) (w2 := []) (w' := wX7 cy a0 t0 t1 k0 k1 k2 s0 s1 s2 s3 s4 s5 s6 s7 s8 s9 s10 s11 hd Xle Xch Xpo Xltr Xfi Xse Xth Ksz Kcl Kke Asz Anu Aba Amo Aco Hsz Hla Hce Bsz Bla Bce Tma Tlc Ttc day lim low hig thr off cre rcp pay sv_2 nx_3 SL) (x_end rfl) (x_end rfl) hP hK hD hN hS hA (q0 := 0) rfl rfl rfl rfl hl rfl (Nat.le_of_ble_eq_true rfl) dX7_keptUnlessError_8 ⟨Nat.zero_le _, Nat.zero_le _⟩ (fun H locs hP hD hS => ?_)
    refine lv_iload_n hx hb dX7_keptUnlessError_11 rfl (lv_at hl 1 rfl) ?_
    have hf := Option.some.inj hf
    cases hf
    exact x_iret hx hb hr hlocks hK hP hD hS dX7_keptUnlessError_12
theorem kdX7_setRates : yX7_setRates.cls = RX7 ∧ yX7_setRates.cls ≠ "java/lang/invoke/MethodHandle" ∧ yX7_setRates.cls ≠ "java/lang/invoke/VarHandle" ∧ (parseMethodDescriptor yX7_setRates.desc).map (fun d => d.parameters.length) = some 3 := by decide +kernel
def rmX7_setRates : Room := { frames := 4, cells := 0, slots := 0, locals := 112 }
set_option maxHeartbeats 4000000 in
set_option maxRecDepth 100000 in
theorem mX7_setRates (l : Launch) (D : va_G) (cy : Nat → ClassId) (a0 t0 t1 k0 k1 k2 s0 s1 s2 s3 s4 s5 s6 s7 s8 s9 s10 s11 : Nat) (hd : Nat → Nat) (Xle : Int32) (Xch : Nat → Int32) (Xpo : Int32) (Xltr : Int32) (Xfi : Int32) (Xse : Int32) (Xth : Int32) (Ksz : Int32) (Kcl : Nat → Int32) (Kke : Nat → Int32) (Asz : Int32) (Anu : Nat → Int32) (Aba : Nat → Int32) (Amo : Nat → Int32) (Aco : Nat → Int64) (Hsz : Int32) (Hla : Int32) (Hce : Nat → Int32) (Bsz : Int32) (Bla : Int32) (Bce : Nat → Int32) (Tma : Int32) (Tlc : Int32) (Ttc : Nat → Int32) (day : Int32) (lim : Int32) (low : Int32) (hig : Int32) (thr : Int32) (off : Int64) (cre : Int64) (rcp : Int64) (pay : Int64) (sv : Int32) (nx : Int32) (SL : Nat → XS) (p1 : Int32) (p2 : Int32) (p3 : Int32) (r : Int32) (lim' : Int32) (low' : Int32) (hig' : Int32) (sv' : Int32) (nx' : Int32) (SL' : Nat → XS) (hf : fX7_setRates Asz Anu Aba Amo Aco Hsz Hla Hce Bsz Bla Bce Tma Tlc Ttc day lim low hig thr off cre rcp pay sv nx SL p1 p2 p3 = some (r, lim', low', hig', sv', nx', SL')) : xMi l D cy yX7_setRates aX7_setRates rmX7_setRates ([.ref a0, .int p1, .int p2, .int p3] : List Value) (wX7 cy a0 t0 t1 k0 k1 k2 s0 s1 s2 s3 s4 s5 s6 s7 s8 s9 s10 s11 hd Xle Xch Xpo Xltr Xfi Xse Xth Ksz Kcl Kke Asz Anu Aba Amo Aco Hsz Hla Hce Bsz Bla Bce Tma Tlc Ttc day lim low hig thr off cre rcp pay sv nx SL) (wX7 cy a0 t0 t1 k0 k1 k2 s0 s1 s2 s3 s4 s5 s6 s7 s8 s9 s10 s11 hd Xle Xch Xpo Xltr Xfi Xse Xth Ksz Kcl Kke Asz Anu Aba Amo Aco Hsz Hla Hce Bsz Bla Bce Tma Tlc Ttc day lim' low' hig' thr off cre rcp pay sv' nx' SL') r := by
  intro hz
  refine x_start (Qc := xQi D cy _ r) (cc := cX7_setRates) (maxL := 4) (ret := (some .int)) (by decide) rfl (Nat.le_of_ble_eq_true rfl) (lv := [(0, .ref a0), (1, .int p1), (2, .int p2), (3, .int p3)]) rfl ?_
  intro p e s m below meth c ls A hx hb hr hml hown hts hlocks hK hP hD hS hA hN hl
  have hown : s.vm.findClass RX7 = some m.cls := hown
  have hbg : ∀ w ∈ wsL_law, w ∈ aX7_setRates := fun w h => List.mem_cons_of_mem _ h
  have wd0 : (Cond.fieldLink RX7 19 "ClientMoneyBook" "history" "LClientMoneyBook$History;").before ([.ref a0, .int p1, .int p2, .int p3] : List Value).toArray s = true := hts _ (List.mem_cons_of_mem _ wm_1_5)
  have wd1 : (Cond.fieldLink RX7 10 "ClientMoneyBook" "state" "LClientMoneyBook$State;").before ([.ref a0, .int p1, .int p2, .int p3] : List Value).toArray s = true := hts _ (List.mem_cons_of_mem _ wm_1_1)
  have iX7 : ∀ w ∈ u_ws RX7 TX7 4, w ∈ aX7_setRates := fun w h => List.mem_cons_of_mem _ (inlX7 w h)
  unfold fX7_setRates at hf
  refine lv_aload_n hx hb dX7_setRates_0 rfl (lv_at hl 0 rfl) ?_
  refine x_get hx hb (C := RX7) (T := TX7) (N := 4) (ci := 7) hts iX7 hown hK hP 0 rfl rfl 1 (by decide) wd0 rfl (.ref (hd 0)) rfl dX7_setRates_1 ?_
  refine lv_aload_n hx hb dX7_setRates_4 rfl (lv_at hl 0 rfl) ?_
  refine x_get hx hb (C := RX7) (T := TX7) (N := 4) (ci := 7) hts iX7 hown hK hP 0 rfl rfl 0 (by decide) wd1 rfl (.ref s0) rfl dX7_setRates_5 ?_
  obtain ⟨SL_1, h_2, hf⟩ := bd1_el hf
  refine x_callVv (As := [.ref s0]) (rest := []) ⟨hx, hb, hml, hown, hts⟩ (mX1_prepare l D cy s0 s1 s2 s3 s4 s5 s6 s7 s8 s9 s10 s11 hd Asz Anu Aba Amo Aco Hsz Hla Hce Bsz Bla Bce Tma Tlc Ttc day lim low hig thr off cre rcp pay sv nx SL  SL_1 h_2) (cwV 1 hts (gcV_X1_prepare hbg wm_5_3) rfl rfl rfl kdX1_prepare ⟨Nat.le_of_ble_eq_true rfl, Nat.le_of_ble_eq_true rfl⟩) (w1 := [(a0, .inr (7, [.ref s0, .ref (hd 0), .ref t0, .ref k0]))] ++ (wX2 cy t0 t1 Xle Xch Xpo Xltr Xfi Xse Xth ++ (wX3 cy k0 k1 k2 Ksz Kcl Kke))) (w2 := []) (w' := wX7 cy a0 t0 t1 k0 k1 k2 s0 s1 s2 s3 s4 s5 s6 s7 s8 s9 s10 s11 hd Xle Xch Xpo Xltr Xfi Xse Xth Ksz Kcl Kke Asz Anu Aba Amo Aco Hsz Hla Hce Bsz Bla Bce Tma Tlc Ttc day lim low hig thr off cre rcp pay sv nx SL_1) (x_end rfl) (x_end rfl) hP hK hD hN hS hA (q0 := 12) rfl rfl rfl rfl hl rfl (Nat.le_of_ble_eq_true rfl) dX7_setRates_8 ⟨Nat.zero_le _, Nat.zero_le _⟩ (fun H locs hP hD hS => ?_)
  refine lv_aload_n hx hb dX7_setRates_11 rfl (lv_at hl 0 rfl) ?_
  refine lv_aload_n hx hb dX7_setRates_12 rfl (lv_at hl 0 rfl) ?_
  refine x_get hx hb (C := RX7) (T := TX7) (N := 4) (ci := 7) hts iX7 hown hK hP 0 rfl rfl 0 (by decide) wd1 rfl (.ref s0) rfl dX7_setRates_13 ?_
  refine lv_iload_n hx hb dX7_setRates_16 rfl (lv_at hl 1 rfl) ?_
  refine lv_iload_n hx hb dX7_setRates_17 rfl (lv_at hl 2 rfl) ?_
  refine lv_iload_n hx hb dX7_setRates_18 rfl (lv_at hl 3 rfl) ?_
  obtain ⟨r_3, lim_4, low_5, hig_6, h_7, hf⟩ := bd4_el hf
  refine x_callVi (As := [.int p1, .int p2, .int p3]) (rest := [.ref a0]) ⟨hx, hb, hml, hown, hts⟩ (mX5_changeRates l D cy s0 s1 s2 s3 s4 s5 s6 s7 s8 s9 s10 s11 Asz Anu Aba Amo Aco Hsz Hla Hce Bsz Bla Bce Tma Tlc Ttc day lim low hig thr off cre rcp pay p1 p2 p3 r_3 lim_4 low_5 hig_6 h_7) (cwV 3 hts (gcV_X5_changeRates hbg wm_17_5) rfl rfl rfl kdX5_changeRates ⟨Nat.le_of_ble_eq_true rfl, Nat.le_of_ble_eq_true rfl⟩) (w1 := [(a0, .inr (7, [.ref s0, .ref (hd 0), .ref t0, .ref k0]))] ++ (wX2 cy t0 t1 Xle Xch Xpo Xltr Xfi Xse Xth ++ (wX3 cy k0 k1 k2 Ksz Kcl Kke))) (w2 := wX1 cy hd sv nx SL_1) (w' := wX7 cy a0 t0 t1 k0 k1 k2 s0 s1 s2 s3 s4 s5 s6 s7 s8 s9 s10 s11 hd Xle Xch Xpo Xltr Xfi Xse Xth Ksz Kcl Kke Asz Anu Aba Amo Aco Hsz Hla Hce Bsz Bla Bce Tma Tlc Ttc day lim_4 low_5 hig_6 thr off cre rcp pay sv nx SL_1) rfl rfl hP hK hD hN hS hA (q0 := 0) rfl rfl rfl rfl hl rfl (Nat.le_of_ble_eq_true rfl) dX7_setRates_19 ⟨Nat.zero_le _, Nat.zero_le _⟩ (fun H locs hP hD hS => ?_)
  obtain ⟨r_8, sv_9, nx_10, h_11, hf⟩ := bd3_el hf
  refine x_callVi (As := [.int r_3]) (rest := []) ⟨hx, hb, hml, hown, hts⟩ (mX7_keptUnlessError l D cy a0 t0 t1 k0 k1 k2 s0 s1 s2 s3 s4 s5 s6 s7 s8 s9 s10 s11 hd Xle Xch Xpo Xltr Xfi Xse Xth Ksz Kcl Kke Asz Anu Aba Amo Aco Hsz Hla Hce Bsz Bla Bce Tma Tlc Ttc day lim_4 low_5 hig_6 thr off cre rcp pay sv nx SL_1 r_3 r_8 sv_9 nx_10 h_11) (cwV 1 hts (gcV_X7_keptUnlessError hbg wm_7_10) rfl rfl rfl kdX7_keptUnlessError ⟨Nat.le_of_ble_eq_true rfl, Nat.le_of_ble_eq_true rfl⟩) (w1 := []) (w2 := []) (w' := wX7 cy a0 t0 t1 k0 k1 k2 s0 s1 s2 s3 s4 s5 s6 s7 s8 s9 s10 s11 hd Xle Xch Xpo Xltr Xfi Xse Xth Ksz Kcl Kke Asz Anu Aba Amo Aco Hsz Hla Hce Bsz Bla Bce Tma Tlc Ttc day lim_4 low_5 hig_6 thr off cre rcp pay sv_9 nx_10 SL_1) (List.append_nil _) (List.append_nil _) hP hK hD hN hS hA (q0 := 0) rfl rfl rfl rfl hl rfl (Nat.le_of_ble_eq_true rfl) dX7_setRates_22 ⟨Nat.zero_le _, Nat.zero_le _⟩ (fun H locs hP hD hS => ?_)
  have hf := Option.some.inj hf
  cases hf
  exact x_iret hx hb hr hlocks hK hP hD hS dX7_setRates_25
theorem kdX7_setThreshold : yX7_setThreshold.cls = RX7 ∧ yX7_setThreshold.cls ≠ "java/lang/invoke/MethodHandle" ∧ yX7_setThreshold.cls ≠ "java/lang/invoke/VarHandle" ∧ (parseMethodDescriptor yX7_setThreshold.desc).map (fun d => d.parameters.length) = some 1 := by decide +kernel
def rmX7_setThreshold : Room := { frames := 4, cells := 0, slots := 0, locals := 112 }
set_option maxHeartbeats 4000000 in
set_option maxRecDepth 100000 in
theorem mX7_setThreshold (l : Launch) (D : va_G) (cy : Nat → ClassId) (a0 t0 t1 k0 k1 k2 s0 s1 s2 s3 s4 s5 s6 s7 s8 s9 s10 s11 : Nat) (hd : Nat → Nat) (Xle : Int32) (Xch : Nat → Int32) (Xpo : Int32) (Xltr : Int32) (Xfi : Int32) (Xse : Int32) (Xth : Int32) (Ksz : Int32) (Kcl : Nat → Int32) (Kke : Nat → Int32) (Asz : Int32) (Anu : Nat → Int32) (Aba : Nat → Int32) (Amo : Nat → Int32) (Aco : Nat → Int64) (Hsz : Int32) (Hla : Int32) (Hce : Nat → Int32) (Bsz : Int32) (Bla : Int32) (Bce : Nat → Int32) (Tma : Int32) (Tlc : Int32) (Ttc : Nat → Int32) (day : Int32) (lim : Int32) (low : Int32) (hig : Int32) (thr : Int32) (off : Int64) (cre : Int64) (rcp : Int64) (pay : Int64) (sv : Int32) (nx : Int32) (SL : Nat → XS) (p1 : Int32) (r : Int32) (thr' : Int32) (sv' : Int32) (nx' : Int32) (SL' : Nat → XS) (hf : fX7_setThreshold Asz Anu Aba Amo Aco Hsz Hla Hce Bsz Bla Bce Tma Tlc Ttc day lim low hig thr off cre rcp pay sv nx SL p1 = some (r, thr', sv', nx', SL')) : xMi l D cy yX7_setThreshold aX7_setThreshold rmX7_setThreshold ([.ref a0, .int p1] : List Value) (wX7 cy a0 t0 t1 k0 k1 k2 s0 s1 s2 s3 s4 s5 s6 s7 s8 s9 s10 s11 hd Xle Xch Xpo Xltr Xfi Xse Xth Ksz Kcl Kke Asz Anu Aba Amo Aco Hsz Hla Hce Bsz Bla Bce Tma Tlc Ttc day lim low hig thr off cre rcp pay sv nx SL) (wX7 cy a0 t0 t1 k0 k1 k2 s0 s1 s2 s3 s4 s5 s6 s7 s8 s9 s10 s11 hd Xle Xch Xpo Xltr Xfi Xse Xth Ksz Kcl Kke Asz Anu Aba Amo Aco Hsz Hla Hce Bsz Bla Bce Tma Tlc Ttc day lim low hig thr' off cre rcp pay sv' nx' SL') r := by
  intro hz
  refine x_start (Qc := xQi D cy _ r) (cc := cX7_setThreshold) (maxL := 2) (ret := (some .int)) (by decide) rfl (Nat.le_of_ble_eq_true rfl) (lv := [(0, .ref a0), (1, .int p1)]) rfl ?_
  intro p e s m below meth c ls A hx hb hr hml hown hts hlocks hK hP hD hS hA hN hl
  have hown : s.vm.findClass RX7 = some m.cls := hown
  have hbg : ∀ w ∈ wsL_law, w ∈ aX7_setThreshold := fun w h => List.mem_cons_of_mem _ h
  have wd0 : (Cond.fieldLink RX7 19 "ClientMoneyBook" "history" "LClientMoneyBook$History;").before ([.ref a0, .int p1] : List Value).toArray s = true := hts _ (List.mem_cons_of_mem _ wm_1_5)
  have wd1 : (Cond.fieldLink RX7 10 "ClientMoneyBook" "state" "LClientMoneyBook$State;").before ([.ref a0, .int p1] : List Value).toArray s = true := hts _ (List.mem_cons_of_mem _ wm_1_1)
  have iX7 : ∀ w ∈ u_ws RX7 TX7 4, w ∈ aX7_setThreshold := fun w h => List.mem_cons_of_mem _ (inlX7 w h)
  unfold fX7_setThreshold at hf
  refine lv_aload_n hx hb dX7_setThreshold_0 rfl (lv_at hl 0 rfl) ?_
  refine x_get hx hb (C := RX7) (T := TX7) (N := 4) (ci := 7) hts iX7 hown hK hP 0 rfl rfl 1 (by decide) wd0 rfl (.ref (hd 0)) rfl dX7_setThreshold_1 ?_
  refine lv_aload_n hx hb dX7_setThreshold_4 rfl (lv_at hl 0 rfl) ?_
  refine x_get hx hb (C := RX7) (T := TX7) (N := 4) (ci := 7) hts iX7 hown hK hP 0 rfl rfl 0 (by decide) wd1 rfl (.ref s0) rfl dX7_setThreshold_5 ?_
  obtain ⟨SL_1, h_2, hf⟩ := bd1_el hf
  refine x_callVv (As := [.ref s0]) (rest := []) ⟨hx, hb, hml, hown, hts⟩ (mX1_prepare l D cy s0 s1 s2 s3 s4 s5 s6 s7 s8 s9 s10 s11 hd Asz Anu Aba Amo Aco Hsz Hla Hce Bsz Bla Bce Tma Tlc Ttc day lim low hig thr off cre rcp pay sv nx SL  SL_1 h_2) (cwV 1 hts (gcV_X1_prepare hbg wm_5_3) rfl rfl rfl kdX1_prepare ⟨Nat.le_of_ble_eq_true rfl, Nat.le_of_ble_eq_true rfl⟩) (w1 := [(a0, .inr (7, [.ref s0, .ref (hd 0), .ref t0, .ref k0]))] ++ (wX2 cy t0 t1 Xle Xch Xpo Xltr Xfi Xse Xth ++ (wX3 cy k0 k1 k2 Ksz Kcl Kke))) (w2 := []) (w' := wX7 cy a0 t0 t1 k0 k1 k2 s0 s1 s2 s3 s4 s5 s6 s7 s8 s9 s10 s11 hd Xle Xch Xpo Xltr Xfi Xse Xth Ksz Kcl Kke Asz Anu Aba Amo Aco Hsz Hla Hce Bsz Bla Bce Tma Tlc Ttc day lim low hig thr off cre rcp pay sv nx SL_1) (x_end rfl) (x_end rfl) hP hK hD hN hS hA (q0 := 12) rfl rfl rfl rfl hl rfl (Nat.le_of_ble_eq_true rfl) dX7_setThreshold_8 ⟨Nat.zero_le _, Nat.zero_le _⟩ (fun H locs hP hD hS => ?_)
  refine lv_aload_n hx hb dX7_setThreshold_11 rfl (lv_at hl 0 rfl) ?_
  refine lv_aload_n hx hb dX7_setThreshold_12 rfl (lv_at hl 0 rfl) ?_
  refine x_get hx hb (C := RX7) (T := TX7) (N := 4) (ci := 7) hts iX7 hown hK hP 0 rfl rfl 0 (by decide) wd1 rfl (.ref s0) rfl dX7_setThreshold_13 ?_
  refine lv_iload_n hx hb dX7_setThreshold_16 rfl (lv_at hl 1 rfl) ?_
  obtain ⟨r_3, thr_4, h_5, hf⟩ := bd2_el hf
  refine x_callVi (As := [.int p1]) (rest := [.ref a0]) ⟨hx, hb, hml, hown, hts⟩ (mX5_changeThreshold l D cy s0 s1 s2 s3 s4 s5 s6 s7 s8 s9 s10 s11 Asz Anu Aba Amo Aco Hsz Hla Hce Bsz Bla Bce Tma Tlc Ttc day lim low hig thr off cre rcp pay p1 r_3 thr_4 h_5) (cwV 1 hts (gcV_X5_changeThreshold hbg wm_17_13) rfl rfl rfl kdX5_changeThreshold ⟨Nat.le_of_ble_eq_true rfl, Nat.le_of_ble_eq_true rfl⟩) (w1 := [(a0, .inr (7, [.ref s0, .ref (hd 0), .ref t0, .ref k0]))] ++ (wX2 cy t0 t1 Xle Xch Xpo Xltr Xfi Xse Xth ++ (wX3 cy k0 k1 k2 Ksz Kcl Kke))) (w2 := wX1 cy hd sv nx SL_1) (w' := wX7 cy a0 t0 t1 k0 k1 k2 s0 s1 s2 s3 s4 s5 s6 s7 s8 s9 s10 s11 hd Xle Xch Xpo Xltr Xfi Xse Xth Ksz Kcl Kke Asz Anu Aba Amo Aco Hsz Hla Hce Bsz Bla Bce Tma Tlc Ttc day lim low hig thr_4 off cre rcp pay sv nx SL_1) rfl rfl hP hK hD hN hS hA (q0 := 0) rfl rfl rfl rfl hl rfl (Nat.le_of_ble_eq_true rfl) dX7_setThreshold_17 ⟨Nat.zero_le _, Nat.zero_le _⟩ (fun H locs hP hD hS => ?_)
  obtain ⟨r_6, sv_7, nx_8, h_9, hf⟩ := bd3_el hf
  refine x_callVi (As := [.int r_3]) (rest := []) ⟨hx, hb, hml, hown, hts⟩ (mX7_keptUnlessError l D cy a0 t0 t1 k0 k1 k2 s0 s1 s2 s3 s4 s5 s6 s7 s8 s9 s10 s11 hd Xle Xch Xpo Xltr Xfi Xse Xth Ksz Kcl Kke Asz Anu Aba Amo Aco Hsz Hla Hce Bsz Bla Bce Tma Tlc Ttc day lim low hig thr_4 off cre rcp pay sv nx SL_1 r_3 r_6 sv_7 nx_8 h_9) (cwV 1 hts (gcV_X7_keptUnlessError hbg wm_7_10) rfl rfl rfl kdX7_keptUnlessError ⟨Nat.le_of_ble_eq_true rfl, Nat.le_of_ble_eq_true rfl⟩) (w1 := []) (w2 := []) (w' := wX7 cy a0 t0 t1 k0 k1 k2 s0 s1 s2 s3 s4 s5 s6 s7 s8 s9 s10 s11 hd Xle Xch Xpo Xltr Xfi Xse Xth Ksz Kcl Kke Asz Anu Aba Amo Aco Hsz Hla Hce Bsz Bla Bce Tma Tlc Ttc day lim low hig thr_4 off cre rcp pay sv_7 nx_8 SL_1) (List.append_nil _) (List.append_nil _) hP hK hD hN hS hA (q0 := 0) rfl rfl rfl rfl hl rfl (Nat.le_of_ble_eq_true rfl) dX7_setThreshold_20 ⟨Nat.zero_le _, Nat.zero_le _⟩ (fun H locs hP hD hS => ?_)
  have hf := Option.some.inj hf
  cases hf
  exact x_iret hx hb hr hlocks hK hP hD hS dX7_setThreshold_23
theorem kdX7_open : yX7_open.cls = RX7 ∧ yX7_open.cls ≠ "java/lang/invoke/MethodHandle" ∧ yX7_open.cls ≠ "java/lang/invoke/VarHandle" ∧ (parseMethodDescriptor yX7_open.desc).map (fun d => d.parameters.length) = some 1 := by decide +kernel
def rmX7_open : Room := { frames := 4, cells := 0, slots := 0, locals := 112 }
set_option maxHeartbeats 4000000 in
set_option maxRecDepth 100000 in
theorem mX7_open (l : Launch) (D : va_G) (cy : Nat → ClassId) (a0 t0 t1 k0 k1 k2 s0 s1 s2 s3 s4 s5 s6 s7 s8 s9 s10 s11 : Nat) (hd : Nat → Nat) (Xle : Int32) (Xch : Nat → Int32) (Xpo : Int32) (Xltr : Int32) (Xfi : Int32) (Xse : Int32) (Xth : Int32) (Ksz : Int32) (Kcl : Nat → Int32) (Kke : Nat → Int32) (Asz : Int32) (Anu : Nat → Int32) (Aba : Nat → Int32) (Amo : Nat → Int32) (Aco : Nat → Int64) (Hsz : Int32) (Hla : Int32) (Hce : Nat → Int32) (Bsz : Int32) (Bla : Int32) (Bce : Nat → Int32) (Tma : Int32) (Tlc : Int32) (Ttc : Nat → Int32) (day : Int32) (lim : Int32) (low : Int32) (hig : Int32) (thr : Int32) (off : Int64) (cre : Int64) (rcp : Int64) (pay : Int64) (sv : Int32) (nx : Int32) (SL : Nat → XS) (p1 : Int32) (r : Int32) (Asz' : Int32) (Anu' : Nat → Int32) (Aba' : Nat → Int32) (Amo' : Nat → Int32) (Aco' : Nat → Int64) (sv' : Int32) (nx' : Int32) (SL' : Nat → XS) (hf : fX7_open Asz Anu Aba Amo Aco Hsz Hla Hce Bsz Bla Bce Tma Tlc Ttc day lim low hig thr off cre rcp pay sv nx SL p1 = some (r, Asz', Anu', Aba', Amo', Aco', sv', nx', SL')) : xMi l D cy yX7_open aX7_open rmX7_open ([.ref a0, .int p1] : List Value) (wX7 cy a0 t0 t1 k0 k1 k2 s0 s1 s2 s3 s4 s5 s6 s7 s8 s9 s10 s11 hd Xle Xch Xpo Xltr Xfi Xse Xth Ksz Kcl Kke Asz Anu Aba Amo Aco Hsz Hla Hce Bsz Bla Bce Tma Tlc Ttc day lim low hig thr off cre rcp pay sv nx SL) (wX7 cy a0 t0 t1 k0 k1 k2 s0 s1 s2 s3 s4 s5 s6 s7 s8 s9 s10 s11 hd Xle Xch Xpo Xltr Xfi Xse Xth Ksz Kcl Kke Asz' Anu' Aba' Amo' Aco' Hsz Hla Hce Bsz Bla Bce Tma Tlc Ttc day lim low hig thr off cre rcp pay sv' nx' SL') r := by
  intro hz
  refine x_start (Qc := xQi D cy _ r) (cc := cX7_open) (maxL := 2) (ret := (some .int)) (by decide) rfl (Nat.le_of_ble_eq_true rfl) (lv := [(0, .ref a0), (1, .int p1)]) rfl ?_
  intro p e s m below meth c ls A hx hb hr hml hown hts hlocks hK hP hD hS hA hN hl
  have hown : s.vm.findClass RX7 = some m.cls := hown
  have hbg : ∀ w ∈ wsL_law, w ∈ aX7_open := fun w h => List.mem_cons_of_mem _ h
  have wd0 : (Cond.fieldLink RX7 19 "ClientMoneyBook" "history" "LClientMoneyBook$History;").before ([.ref a0, .int p1] : List Value).toArray s = true := hts _ (List.mem_cons_of_mem _ wm_1_5)
  have wd1 : (Cond.fieldLink RX7 10 "ClientMoneyBook" "state" "LClientMoneyBook$State;").before ([.ref a0, .int p1] : List Value).toArray s = true := hts _ (List.mem_cons_of_mem _ wm_1_1)
  have iX7 : ∀ w ∈ u_ws RX7 TX7 4, w ∈ aX7_open := fun w h => List.mem_cons_of_mem _ (inlX7 w h)
  unfold fX7_open at hf
  refine lv_aload_n hx hb dX7_open_0 rfl (lv_at hl 0 rfl) ?_
  refine x_get hx hb (C := RX7) (T := TX7) (N := 4) (ci := 7) hts iX7 hown hK hP 0 rfl rfl 1 (by decide) wd0 rfl (.ref (hd 0)) rfl dX7_open_1 ?_
  refine lv_aload_n hx hb dX7_open_4 rfl (lv_at hl 0 rfl) ?_
  refine x_get hx hb (C := RX7) (T := TX7) (N := 4) (ci := 7) hts iX7 hown hK hP 0 rfl rfl 0 (by decide) wd1 rfl (.ref s0) rfl dX7_open_5 ?_
  obtain ⟨SL_1, h_2, hf⟩ := bd1_el hf
  refine x_callVv (As := [.ref s0]) (rest := []) ⟨hx, hb, hml, hown, hts⟩ (mX1_prepare l D cy s0 s1 s2 s3 s4 s5 s6 s7 s8 s9 s10 s11 hd Asz Anu Aba Amo Aco Hsz Hla Hce Bsz Bla Bce Tma Tlc Ttc day lim low hig thr off cre rcp pay sv nx SL  SL_1 h_2) (cwV 1 hts (gcV_X1_prepare hbg wm_5_3) rfl rfl rfl kdX1_prepare ⟨Nat.le_of_ble_eq_true rfl, Nat.le_of_ble_eq_true rfl⟩) (w1 := [(a0, .inr (7, [.ref s0, .ref (hd 0), .ref t0, .ref k0]))] ++ (wX2 cy t0 t1 Xle Xch Xpo Xltr Xfi Xse Xth ++ (wX3 cy k0 k1 k2 Ksz Kcl Kke))) (w2 := []) (w' := wX7 cy a0 t0 t1 k0 k1 k2 s0 s1 s2 s3 s4 s5 s6 s7 s8 s9 s10 s11 hd Xle Xch Xpo Xltr Xfi Xse Xth Ksz Kcl Kke Asz Anu Aba Amo Aco Hsz Hla Hce Bsz Bla Bce Tma Tlc Ttc day lim low hig thr off cre rcp pay sv nx SL_1) (x_end rfl) (x_end rfl) hP hK hD hN hS hA (q0 := 12) rfl rfl rfl rfl hl rfl (Nat.le_of_ble_eq_true rfl) dX7_open_8 ⟨Nat.zero_le _, Nat.zero_le _⟩ (fun H locs hP hD hS => ?_)
  refine lv_aload_n hx hb dX7_open_11 rfl (lv_at hl 0 rfl) ?_
  refine lv_aload_n hx hb dX7_open_12 rfl (lv_at hl 0 rfl) ?_
  refine x_get hx hb (C := RX7) (T := TX7) (N := 4) (ci := 7) hts iX7 hown hK hP 0 rfl rfl 0 (by decide) wd1 rfl (.ref s0) rfl dX7_open_13 ?_
  refine lv_iload_n hx hb dX7_open_16 rfl (lv_at hl 1 rfl) ?_
  obtain ⟨r_3, Asz_4, Anu_5, Aba_6, Amo_7, Aco_8, h_9, hf⟩ := bd6_el hf
  refine x_callVi (As := [.int p1]) (rest := [.ref a0]) ⟨hx, hb, hml, hown, hts⟩ (mX5_openAccount l D cy s0 s1 s2 s3 s4 s5 s6 s7 s8 s9 s10 s11 Asz Anu Aba Amo Aco Hsz Hla Hce Bsz Bla Bce Tma Tlc Ttc day lim low hig thr off cre rcp pay p1 r_3 Asz_4 Anu_5 Aba_6 Amo_7 Aco_8 h_9) (cwV 1 hts (gcV_X5_openAccount hbg wm_6_9) rfl rfl rfl kdX5_openAccount ⟨Nat.le_of_ble_eq_true rfl, Nat.le_of_ble_eq_true rfl⟩) (w1 := [(a0, .inr (7, [.ref s0, .ref (hd 0), .ref t0, .ref k0]))] ++ (wX2 cy t0 t1 Xle Xch Xpo Xltr Xfi Xse Xth ++ (wX3 cy k0 k1 k2 Ksz Kcl Kke))) (w2 := wX1 cy hd sv nx SL_1) (w' := wX7 cy a0 t0 t1 k0 k1 k2 s0 s1 s2 s3 s4 s5 s6 s7 s8 s9 s10 s11 hd Xle Xch Xpo Xltr Xfi Xse Xth Ksz Kcl Kke Asz_4 Anu_5 Aba_6 Amo_7 Aco_8 Hsz Hla Hce Bsz Bla Bce Tma Tlc Ttc day lim low hig thr off cre rcp pay sv nx SL_1) rfl rfl hP hK hD hN hS hA (q0 := 0) rfl rfl rfl rfl hl rfl (Nat.le_of_ble_eq_true rfl) dX7_open_17 ⟨Nat.zero_le _, Nat.zero_le _⟩ (fun H locs hP hD hS => ?_)
  obtain ⟨r_10, sv_11, nx_12, h_13, hf⟩ := bd3_el hf
  refine x_callVi (As := [.int r_3]) (rest := []) ⟨hx, hb, hml, hown, hts⟩ (mX7_keptUnlessError l D cy a0 t0 t1 k0 k1 k2 s0 s1 s2 s3 s4 s5 s6 s7 s8 s9 s10 s11 hd Xle Xch Xpo Xltr Xfi Xse Xth Ksz Kcl Kke Asz_4 Anu_5 Aba_6 Amo_7 Aco_8 Hsz Hla Hce Bsz Bla Bce Tma Tlc Ttc day lim low hig thr off cre rcp pay sv nx SL_1 r_3 r_10 sv_11 nx_12 h_13) (cwV 1 hts (gcV_X7_keptUnlessError hbg wm_7_10) rfl rfl rfl kdX7_keptUnlessError ⟨Nat.le_of_ble_eq_true rfl, Nat.le_of_ble_eq_true rfl⟩) (w1 := []) (w2 := []) (w' := wX7 cy a0 t0 t1 k0 k1 k2 s0 s1 s2 s3 s4 s5 s6 s7 s8 s9 s10 s11 hd Xle Xch Xpo Xltr Xfi Xse Xth Ksz Kcl Kke Asz_4 Anu_5 Aba_6 Amo_7 Aco_8 Hsz Hla Hce Bsz Bla Bce Tma Tlc Ttc day lim low hig thr off cre rcp pay sv_11 nx_12 SL_1) (List.append_nil _) (List.append_nil _) hP hK hD hN hS hA (q0 := 0) rfl rfl rfl rfl hl rfl (Nat.le_of_ble_eq_true rfl) dX7_open_20 ⟨Nat.zero_le _, Nat.zero_le _⟩ (fun H locs hP hD hS => ?_)
  have hf := Option.some.inj hf
  cases hf
  exact x_iret hx hb hr hlocks hK hP hD hS dX7_open_23
theorem kdX7_close : yX7_close.cls = RX7 ∧ yX7_close.cls ≠ "java/lang/invoke/MethodHandle" ∧ yX7_close.cls ≠ "java/lang/invoke/VarHandle" ∧ (parseMethodDescriptor yX7_close.desc).map (fun d => d.parameters.length) = some 1 := by decide +kernel
def rmX7_close : Room := { frames := 4, cells := 0, slots := 0, locals := 112 }
set_option maxHeartbeats 4000000 in
set_option maxRecDepth 100000 in
theorem mX7_close (l : Launch) (D : va_G) (cy : Nat → ClassId) (a0 t0 t1 k0 k1 k2 s0 s1 s2 s3 s4 s5 s6 s7 s8 s9 s10 s11 : Nat) (hd : Nat → Nat) (Xle : Int32) (Xch : Nat → Int32) (Xpo : Int32) (Xltr : Int32) (Xfi : Int32) (Xse : Int32) (Xth : Int32) (Ksz : Int32) (Kcl : Nat → Int32) (Kke : Nat → Int32) (Asz : Int32) (Anu : Nat → Int32) (Aba : Nat → Int32) (Amo : Nat → Int32) (Aco : Nat → Int64) (Hsz : Int32) (Hla : Int32) (Hce : Nat → Int32) (Bsz : Int32) (Bla : Int32) (Bce : Nat → Int32) (Tma : Int32) (Tlc : Int32) (Ttc : Nat → Int32) (day : Int32) (lim : Int32) (low : Int32) (hig : Int32) (thr : Int32) (off : Int64) (cre : Int64) (rcp : Int64) (pay : Int64) (sv : Int32) (nx : Int32) (SL : Nat → XS) (p1 : Int32) (r : Int32) (Asz' : Int32) (Anu' : Nat → Int32) (Aba' : Nat → Int32) (Amo' : Nat → Int32) (Aco' : Nat → Int64) (sv' : Int32) (nx' : Int32) (SL' : Nat → XS) (hf : fX7_close Asz Anu Aba Amo Aco Hsz Hla Hce Bsz Bla Bce Tma Tlc Ttc day lim low hig thr off cre rcp pay sv nx SL p1 = some (r, Asz', Anu', Aba', Amo', Aco', sv', nx', SL')) : xMi l D cy yX7_close aX7_close rmX7_close ([.ref a0, .int p1] : List Value) (wX7 cy a0 t0 t1 k0 k1 k2 s0 s1 s2 s3 s4 s5 s6 s7 s8 s9 s10 s11 hd Xle Xch Xpo Xltr Xfi Xse Xth Ksz Kcl Kke Asz Anu Aba Amo Aco Hsz Hla Hce Bsz Bla Bce Tma Tlc Ttc day lim low hig thr off cre rcp pay sv nx SL) (wX7 cy a0 t0 t1 k0 k1 k2 s0 s1 s2 s3 s4 s5 s6 s7 s8 s9 s10 s11 hd Xle Xch Xpo Xltr Xfi Xse Xth Ksz Kcl Kke Asz' Anu' Aba' Amo' Aco' Hsz Hla Hce Bsz Bla Bce Tma Tlc Ttc day lim low hig thr off cre rcp pay sv' nx' SL') r := by
  intro hz
  refine x_start (Qc := xQi D cy _ r) (cc := cX7_close) (maxL := 2) (ret := (some .int)) (by decide) rfl (Nat.le_of_ble_eq_true rfl) (lv := [(0, .ref a0), (1, .int p1)]) rfl ?_
  intro p e s m below meth c ls A hx hb hr hml hown hts hlocks hK hP hD hS hA hN hl
  have hown : s.vm.findClass RX7 = some m.cls := hown
  have hbg : ∀ w ∈ wsL_law, w ∈ aX7_close := fun w h => List.mem_cons_of_mem _ h
  have wd0 : (Cond.fieldLink RX7 19 "ClientMoneyBook" "history" "LClientMoneyBook$History;").before ([.ref a0, .int p1] : List Value).toArray s = true := hts _ (List.mem_cons_of_mem _ wm_1_5)
  have wd1 : (Cond.fieldLink RX7 10 "ClientMoneyBook" "state" "LClientMoneyBook$State;").before ([.ref a0, .int p1] : List Value).toArray s = true := hts _ (List.mem_cons_of_mem _ wm_1_1)
  have iX7 : ∀ w ∈ u_ws RX7 TX7 4, w ∈ aX7_close := fun w h => List.mem_cons_of_mem _ (inlX7 w h)
  unfold fX7_close at hf
  refine lv_aload_n hx hb dX7_close_0 rfl (lv_at hl 0 rfl) ?_
  refine x_get hx hb (C := RX7) (T := TX7) (N := 4) (ci := 7) hts iX7 hown hK hP 0 rfl rfl 1 (by decide) wd0 rfl (.ref (hd 0)) rfl dX7_close_1 ?_
  refine lv_aload_n hx hb dX7_close_4 rfl (lv_at hl 0 rfl) ?_
  refine x_get hx hb (C := RX7) (T := TX7) (N := 4) (ci := 7) hts iX7 hown hK hP 0 rfl rfl 0 (by decide) wd1 rfl (.ref s0) rfl dX7_close_5 ?_
  obtain ⟨SL_1, h_2, hf⟩ := bd1_el hf
  refine x_callVv (As := [.ref s0]) (rest := []) ⟨hx, hb, hml, hown, hts⟩ (mX1_prepare l D cy s0 s1 s2 s3 s4 s5 s6 s7 s8 s9 s10 s11 hd Asz Anu Aba Amo Aco Hsz Hla Hce Bsz Bla Bce Tma Tlc Ttc day lim low hig thr off cre rcp pay sv nx SL  SL_1 h_2) (cwV 1 hts (gcV_X1_prepare hbg wm_5_3) rfl rfl rfl kdX1_prepare ⟨Nat.le_of_ble_eq_true rfl, Nat.le_of_ble_eq_true rfl⟩) (w1 := [(a0, .inr (7, [.ref s0, .ref (hd 0), .ref t0, .ref k0]))] ++ (wX2 cy t0 t1 Xle Xch Xpo Xltr Xfi Xse Xth ++ (wX3 cy k0 k1 k2 Ksz Kcl Kke))) (w2 := []) (w' := wX7 cy a0 t0 t1 k0 k1 k2 s0 s1 s2 s3 s4 s5 s6 s7 s8 s9 s10 s11 hd Xle Xch Xpo Xltr Xfi Xse Xth Ksz Kcl Kke Asz Anu Aba Amo Aco Hsz Hla Hce Bsz Bla Bce Tma Tlc Ttc day lim low hig thr off cre rcp pay sv nx SL_1) (x_end rfl) (x_end rfl) hP hK hD hN hS hA (q0 := 12) rfl rfl rfl rfl hl rfl (Nat.le_of_ble_eq_true rfl) dX7_close_8 ⟨Nat.zero_le _, Nat.zero_le _⟩ (fun H locs hP hD hS => ?_)
  refine lv_aload_n hx hb dX7_close_11 rfl (lv_at hl 0 rfl) ?_
  refine lv_aload_n hx hb dX7_close_12 rfl (lv_at hl 0 rfl) ?_
  refine x_get hx hb (C := RX7) (T := TX7) (N := 4) (ci := 7) hts iX7 hown hK hP 0 rfl rfl 0 (by decide) wd1 rfl (.ref s0) rfl dX7_close_13 ?_
  refine lv_iload_n hx hb dX7_close_16 rfl (lv_at hl 1 rfl) ?_
  obtain ⟨r_3, Asz_4, Anu_5, Aba_6, Amo_7, Aco_8, h_9, hf⟩ := bd6_el hf
  refine x_callVi (As := [.int p1]) (rest := [.ref a0]) ⟨hx, hb, hml, hown, hts⟩ (mX5_closeAccount l D cy s0 s1 s2 s3 s4 s5 s6 s7 s8 s9 s10 s11 Asz Anu Aba Amo Aco Hsz Hla Hce Bsz Bla Bce Tma Tlc Ttc day lim low hig thr off cre rcp pay p1 r_3 Asz_4 Anu_5 Aba_6 Amo_7 Aco_8 h_9) (cwV 1 hts (gcV_X5_closeAccount hbg wm_19_2) rfl rfl rfl kdX5_closeAccount ⟨Nat.le_of_ble_eq_true rfl, Nat.le_of_ble_eq_true rfl⟩) (w1 := [(a0, .inr (7, [.ref s0, .ref (hd 0), .ref t0, .ref k0]))] ++ (wX2 cy t0 t1 Xle Xch Xpo Xltr Xfi Xse Xth ++ (wX3 cy k0 k1 k2 Ksz Kcl Kke))) (w2 := wX1 cy hd sv nx SL_1) (w' := wX7 cy a0 t0 t1 k0 k1 k2 s0 s1 s2 s3 s4 s5 s6 s7 s8 s9 s10 s11 hd Xle Xch Xpo Xltr Xfi Xse Xth Ksz Kcl Kke Asz_4 Anu_5 Aba_6 Amo_7 Aco_8 Hsz Hla Hce Bsz Bla Bce Tma Tlc Ttc day lim low hig thr off cre rcp pay sv nx SL_1) rfl rfl hP hK hD hN hS hA (q0 := 0) rfl rfl rfl rfl hl rfl (Nat.le_of_ble_eq_true rfl) dX7_close_17 ⟨Nat.zero_le _, Nat.zero_le _⟩ (fun H locs hP hD hS => ?_)
  obtain ⟨r_10, sv_11, nx_12, h_13, hf⟩ := bd3_el hf
  refine x_callVi (As := [.int r_3]) (rest := []) ⟨hx, hb, hml, hown, hts⟩ (mX7_keptUnlessError l D cy a0 t0 t1 k0 k1 k2 s0 s1 s2 s3 s4 s5 s6 s7 s8 s9 s10 s11 hd Xle Xch Xpo Xltr Xfi Xse Xth Ksz Kcl Kke Asz_4 Anu_5 Aba_6 Amo_7 Aco_8 Hsz Hla Hce Bsz Bla Bce Tma Tlc Ttc day lim low hig thr off cre rcp pay sv nx SL_1 r_3 r_10 sv_11 nx_12 h_13) (cwV 1 hts (gcV_X7_keptUnlessError hbg wm_7_10) rfl rfl rfl kdX7_keptUnlessError ⟨Nat.le_of_ble_eq_true rfl, Nat.le_of_ble_eq_true rfl⟩) (w1 := []) (w2 := []) (w' := wX7 cy a0 t0 t1 k0 k1 k2 s0 s1 s2 s3 s4 s5 s6 s7 s8 s9 s10 s11 hd Xle Xch Xpo Xltr Xfi Xse Xth Ksz Kcl Kke Asz_4 Anu_5 Aba_6 Amo_7 Aco_8 Hsz Hla Hce Bsz Bla Bce Tma Tlc Ttc day lim low hig thr off cre rcp pay sv_11 nx_12 SL_1) (List.append_nil _) (List.append_nil _) hP hK hD hN hS hA (q0 := 0) rfl rfl rfl rfl hl rfl (Nat.le_of_ble_eq_true rfl) dX7_close_20 ⟨Nat.zero_le _, Nat.zero_le _⟩ (fun H locs hP hD hS => ?_)
  have hf := Option.some.inj hf
  cases hf
  exact x_iret hx hb hr hlocks hK hP hD hS dX7_close_23
theorem kdX7_receive : yX7_receive.cls = RX7 ∧ yX7_receive.cls ≠ "java/lang/invoke/MethodHandle" ∧ yX7_receive.cls ≠ "java/lang/invoke/VarHandle" ∧ (parseMethodDescriptor yX7_receive.desc).map (fun d => d.parameters.length) = some 2 := by decide +kernel
def rmX7_receive : Room := { frames := 5, cells := 0, slots := 0, locals := 119 }
set_option maxHeartbeats 4000000 in
set_option maxRecDepth 100000 in
theorem mX7_receive (l : Launch) (D : va_G) (cy : Nat → ClassId) (a0 t0 t1 k0 k1 k2 s0 s1 s2 s3 s4 s5 s6 s7 s8 s9 s10 s11 : Nat) (hd : Nat → Nat) (Xle : Int32) (Xch : Nat → Int32) (Xpo : Int32) (Xltr : Int32) (Xfi : Int32) (Xse : Int32) (Xth : Int32) (Ksz : Int32) (Kcl : Nat → Int32) (Kke : Nat → Int32) (Asz : Int32) (Anu : Nat → Int32) (Aba : Nat → Int32) (Amo : Nat → Int32) (Aco : Nat → Int64) (Hsz : Int32) (Hla : Int32) (Hce : Nat → Int32) (Bsz : Int32) (Bla : Int32) (Bce : Nat → Int32) (Tma : Int32) (Tlc : Int32) (Ttc : Nat → Int32) (day : Int32) (lim : Int32) (low : Int32) (hig : Int32) (thr : Int32) (off : Int64) (cre : Int64) (rcp : Int64) (pay : Int64) (sv : Int32) (nx : Int32) (SL : Nat → XS) (p1 : Int32) (p2 : Int32) (r : Int32) (Aba' : Nat → Int32) (Amo' : Nat → Int32) (Tma' : Int32) (Tlc' : Int32) (Ttc' : Nat → Int32) (rcp' : Int64) (sv' : Int32) (nx' : Int32) (SL' : Nat → XS) (hf : fX7_receive Asz Anu Aba Amo Aco Hsz Hla Hce Bsz Bla Bce Tma Tlc Ttc day lim low hig thr off cre rcp pay sv nx SL p1 p2 = some (r, Aba', Amo', Tma', Tlc', Ttc', rcp', sv', nx', SL')) : xMi l D cy yX7_receive aX7_receive rmX7_receive ([.ref a0, .int p1, .int p2] : List Value) (wX7 cy a0 t0 t1 k0 k1 k2 s0 s1 s2 s3 s4 s5 s6 s7 s8 s9 s10 s11 hd Xle Xch Xpo Xltr Xfi Xse Xth Ksz Kcl Kke Asz Anu Aba Amo Aco Hsz Hla Hce Bsz Bla Bce Tma Tlc Ttc day lim low hig thr off cre rcp pay sv nx SL) (wX7 cy a0 t0 t1 k0 k1 k2 s0 s1 s2 s3 s4 s5 s6 s7 s8 s9 s10 s11 hd Xle Xch Xpo Xltr Xfi Xse Xth Ksz Kcl Kke Asz Anu Aba' Amo' Aco Hsz Hla Hce Bsz Bla Bce Tma' Tlc' Ttc' day lim low hig thr off cre rcp' pay sv' nx' SL') r := by
  intro hz
  refine x_start (Qc := xQi D cy _ r) (cc := cX7_receive) (maxL := 3) (ret := (some .int)) (by decide) rfl (Nat.le_of_ble_eq_true rfl) (lv := [(0, .ref a0), (1, .int p1), (2, .int p2)]) rfl ?_
  intro p e s m below meth c ls A hx hb hr hml hown hts hlocks hK hP hD hS hA hN hl
  have hown : s.vm.findClass RX7 = some m.cls := hown
  have hbg : ∀ w ∈ wsL_law, w ∈ aX7_receive := fun w h => List.mem_cons_of_mem _ h
  have wd0 : (Cond.fieldLink RX7 19 "ClientMoneyBook" "history" "LClientMoneyBook$History;").before ([.ref a0, .int p1, .int p2] : List Value).toArray s = true := hts _ (List.mem_cons_of_mem _ wm_1_5)
  have wd1 : (Cond.fieldLink RX7 10 "ClientMoneyBook" "state" "LClientMoneyBook$State;").before ([.ref a0, .int p1, .int p2] : List Value).toArray s = true := hts _ (List.mem_cons_of_mem _ wm_1_1)
  have iX7 : ∀ w ∈ u_ws RX7 TX7 4, w ∈ aX7_receive := fun w h => List.mem_cons_of_mem _ (inlX7 w h)
  unfold fX7_receive at hf
  refine lv_aload_n hx hb dX7_receive_0 rfl (lv_at hl 0 rfl) ?_
  refine x_get hx hb (C := RX7) (T := TX7) (N := 4) (ci := 7) hts iX7 hown hK hP 0 rfl rfl 1 (by decide) wd0 rfl (.ref (hd 0)) rfl dX7_receive_1 ?_
  refine lv_aload_n hx hb dX7_receive_4 rfl (lv_at hl 0 rfl) ?_
  refine x_get hx hb (C := RX7) (T := TX7) (N := 4) (ci := 7) hts iX7 hown hK hP 0 rfl rfl 0 (by decide) wd1 rfl (.ref s0) rfl dX7_receive_5 ?_
  obtain ⟨SL_1, h_2, hf⟩ := bd1_el hf
  refine x_callVv (As := [.ref s0]) (rest := []) ⟨hx, hb, hml, hown, hts⟩ (mX1_prepare l D cy s0 s1 s2 s3 s4 s5 s6 s7 s8 s9 s10 s11 hd Asz Anu Aba Amo Aco Hsz Hla Hce Bsz Bla Bce Tma Tlc Ttc day lim low hig thr off cre rcp pay sv nx SL  SL_1 h_2) (cwV 1 hts (gcV_X1_prepare hbg wm_5_3) rfl rfl rfl kdX1_prepare ⟨Nat.le_of_ble_eq_true rfl, Nat.le_of_ble_eq_true rfl⟩) (w1 := [(a0, .inr (7, [.ref s0, .ref (hd 0), .ref t0, .ref k0]))] ++ (wX2 cy t0 t1 Xle Xch Xpo Xltr Xfi Xse Xth ++ (wX3 cy k0 k1 k2 Ksz Kcl Kke))) (w2 := []) (w' := wX7 cy a0 t0 t1 k0 k1 k2 s0 s1 s2 s3 s4 s5 s6 s7 s8 s9 s10 s11 hd Xle Xch Xpo Xltr Xfi Xse Xth Ksz Kcl Kke Asz Anu Aba Amo Aco Hsz Hla Hce Bsz Bla Bce Tma Tlc Ttc day lim low hig thr off cre rcp pay sv nx SL_1) (x_end rfl) (x_end rfl) hP hK hD hN hS hA (q0 := 12) rfl rfl rfl rfl hl rfl (Nat.le_of_ble_eq_true rfl) dX7_receive_8 ⟨Nat.zero_le _, Nat.zero_le _⟩ (fun H locs hP hD hS => ?_)
  refine lv_aload_n hx hb dX7_receive_11 rfl (lv_at hl 0 rfl) ?_
  refine lv_aload_n hx hb dX7_receive_12 rfl (lv_at hl 0 rfl) ?_
  refine x_get hx hb (C := RX7) (T := TX7) (N := 4) (ci := 7) hts iX7 hown hK hP 0 rfl rfl 0 (by decide) wd1 rfl (.ref s0) rfl dX7_receive_13 ?_
  refine lv_iload_n hx hb dX7_receive_16 rfl (lv_at hl 1 rfl) ?_
  refine lv_iload_n hx hb dX7_receive_17 rfl (lv_at hl 2 rfl) ?_
  obtain ⟨r_3, Aba_4, Amo_5, Tma_6, Tlc_7, Ttc_8, rcp_9, h_10, hf⟩ := bd7_el hf
  refine x_callVi (As := [.int p1, .int p2]) (rest := [.ref a0]) ⟨hx, hb, hml, hown, hts⟩ (mX5_takeReceipt l D cy s0 s1 s2 s3 s4 s5 s6 s7 s8 s9 s10 s11 Asz Anu Aba Amo Aco Hsz Hla Hce Bsz Bla Bce Tma Tlc Ttc day lim low hig thr off cre rcp pay p1 p2 r_3 Aba_4 Amo_5 Tma_6 Tlc_7 Ttc_8 rcp_9 h_10) (cwV 2 hts (gcV_X5_takeReceipt hbg wm_8_5) rfl rfl rfl kdX5_takeReceipt ⟨Nat.le_of_ble_eq_true rfl, Nat.le_of_ble_eq_true rfl⟩) (w1 := [(a0, .inr (7, [.ref s0, .ref (hd 0), .ref t0, .ref k0]))] ++ (wX2 cy t0 t1 Xle Xch Xpo Xltr Xfi Xse Xth ++ (wX3 cy k0 k1 k2 Ksz Kcl Kke))) (w2 := wX1 cy hd sv nx SL_1) (w' := wX7 cy a0 t0 t1 k0 k1 k2 s0 s1 s2 s3 s4 s5 s6 s7 s8 s9 s10 s11 hd Xle Xch Xpo Xltr Xfi Xse Xth Ksz Kcl Kke Asz Anu Aba_4 Amo_5 Aco Hsz Hla Hce Bsz Bla Bce Tma_6 Tlc_7 Ttc_8 day lim low hig thr off cre rcp_9 pay sv nx SL_1) rfl rfl hP hK hD hN hS hA (q0 := 0) rfl rfl rfl rfl hl rfl (Nat.le_of_ble_eq_true rfl) dX7_receive_18 ⟨Nat.zero_le _, Nat.zero_le _⟩ (fun H locs hP hD hS => ?_)
  obtain ⟨r_11, sv_12, nx_13, h_14, hf⟩ := bd3_el hf
  refine x_callVi (As := [.int r_3]) (rest := []) ⟨hx, hb, hml, hown, hts⟩ (mX7_keptUnlessError l D cy a0 t0 t1 k0 k1 k2 s0 s1 s2 s3 s4 s5 s6 s7 s8 s9 s10 s11 hd Xle Xch Xpo Xltr Xfi Xse Xth Ksz Kcl Kke Asz Anu Aba_4 Amo_5 Aco Hsz Hla Hce Bsz Bla Bce Tma_6 Tlc_7 Ttc_8 day lim low hig thr off cre rcp_9 pay sv nx SL_1 r_3 r_11 sv_12 nx_13 h_14) (cwV 1 hts (gcV_X7_keptUnlessError hbg wm_7_10) rfl rfl rfl kdX7_keptUnlessError ⟨Nat.le_of_ble_eq_true rfl, Nat.le_of_ble_eq_true rfl⟩) (w1 := []) (w2 := []) (w' := wX7 cy a0 t0 t1 k0 k1 k2 s0 s1 s2 s3 s4 s5 s6 s7 s8 s9 s10 s11 hd Xle Xch Xpo Xltr Xfi Xse Xth Ksz Kcl Kke Asz Anu Aba_4 Amo_5 Aco Hsz Hla Hce Bsz Bla Bce Tma_6 Tlc_7 Ttc_8 day lim low hig thr off cre rcp_9 pay sv_12 nx_13 SL_1) (List.append_nil _) (List.append_nil _) hP hK hD hN hS hA (q0 := 0) rfl rfl rfl rfl hl rfl (Nat.le_of_ble_eq_true rfl) dX7_receive_21 ⟨Nat.zero_le _, Nat.zero_le _⟩ (fun H locs hP hD hS => ?_)
  have hf := Option.some.inj hf
  cases hf
  exact x_iret hx hb hr hlocks hK hP hD hS dX7_receive_24
theorem kdX7_pay : yX7_pay.cls = RX7 ∧ yX7_pay.cls ≠ "java/lang/invoke/MethodHandle" ∧ yX7_pay.cls ≠ "java/lang/invoke/VarHandle" ∧ (parseMethodDescriptor yX7_pay.desc).map (fun d => d.parameters.length) = some 2 := by decide +kernel
def rmX7_pay : Room := { frames := 5, cells := 0, slots := 0, locals := 119 }
set_option maxHeartbeats 4000000 in
set_option maxRecDepth 100000 in
theorem mX7_pay (l : Launch) (D : va_G) (cy : Nat → ClassId) (a0 t0 t1 k0 k1 k2 s0 s1 s2 s3 s4 s5 s6 s7 s8 s9 s10 s11 : Nat) (hd : Nat → Nat) (Xle : Int32) (Xch : Nat → Int32) (Xpo : Int32) (Xltr : Int32) (Xfi : Int32) (Xse : Int32) (Xth : Int32) (Ksz : Int32) (Kcl : Nat → Int32) (Kke : Nat → Int32) (Asz : Int32) (Anu : Nat → Int32) (Aba : Nat → Int32) (Amo : Nat → Int32) (Aco : Nat → Int64) (Hsz : Int32) (Hla : Int32) (Hce : Nat → Int32) (Bsz : Int32) (Bla : Int32) (Bce : Nat → Int32) (Tma : Int32) (Tlc : Int32) (Ttc : Nat → Int32) (day : Int32) (lim : Int32) (low : Int32) (hig : Int32) (thr : Int32) (off : Int64) (cre : Int64) (rcp : Int64) (pay : Int64) (sv : Int32) (nx : Int32) (SL : Nat → XS) (p1 : Int32) (p2 : Int32) (r : Int32) (Aba' : Nat → Int32) (Amo' : Nat → Int32) (Tma' : Int32) (Tlc' : Int32) (Ttc' : Nat → Int32) (pay' : Int64) (sv' : Int32) (nx' : Int32) (SL' : Nat → XS) (hf : fX7_pay Asz Anu Aba Amo Aco Hsz Hla Hce Bsz Bla Bce Tma Tlc Ttc day lim low hig thr off cre rcp pay sv nx SL p1 p2 = some (r, Aba', Amo', Tma', Tlc', Ttc', pay', sv', nx', SL')) : xMi l D cy yX7_pay aX7_pay rmX7_pay ([.ref a0, .int p1, .int p2] : List Value) (wX7 cy a0 t0 t1 k0 k1 k2 s0 s1 s2 s3 s4 s5 s6 s7 s8 s9 s10 s11 hd Xle Xch Xpo Xltr Xfi Xse Xth Ksz Kcl Kke Asz Anu Aba Amo Aco Hsz Hla Hce Bsz Bla Bce Tma Tlc Ttc day lim low hig thr off cre rcp pay sv nx SL) (wX7 cy a0 t0 t1 k0 k1 k2 s0 s1 s2 s3 s4 s5 s6 s7 s8 s9 s10 s11 hd Xle Xch Xpo Xltr Xfi Xse Xth Ksz Kcl Kke Asz Anu Aba' Amo' Aco Hsz Hla Hce Bsz Bla Bce Tma' Tlc' Ttc' day lim low hig thr off cre rcp pay' sv' nx' SL') r := by
  intro hz
  refine x_start (Qc := xQi D cy _ r) (cc := cX7_pay) (maxL := 3) (ret := (some .int)) (by decide) rfl (Nat.le_of_ble_eq_true rfl) (lv := [(0, .ref a0), (1, .int p1), (2, .int p2)]) rfl ?_
  intro p e s m below meth c ls A hx hb hr hml hown hts hlocks hK hP hD hS hA hN hl
  have hown : s.vm.findClass RX7 = some m.cls := hown
  have hbg : ∀ w ∈ wsL_law, w ∈ aX7_pay := fun w h => List.mem_cons_of_mem _ h
  have wd0 : (Cond.fieldLink RX7 19 "ClientMoneyBook" "history" "LClientMoneyBook$History;").before ([.ref a0, .int p1, .int p2] : List Value).toArray s = true := hts _ (List.mem_cons_of_mem _ wm_1_5)
  have wd1 : (Cond.fieldLink RX7 10 "ClientMoneyBook" "state" "LClientMoneyBook$State;").before ([.ref a0, .int p1, .int p2] : List Value).toArray s = true := hts _ (List.mem_cons_of_mem _ wm_1_1)
  have iX7 : ∀ w ∈ u_ws RX7 TX7 4, w ∈ aX7_pay := fun w h => List.mem_cons_of_mem _ (inlX7 w h)
  unfold fX7_pay at hf
  refine lv_aload_n hx hb dX7_pay_0 rfl (lv_at hl 0 rfl) ?_
  refine x_get hx hb (C := RX7) (T := TX7) (N := 4) (ci := 7) hts iX7 hown hK hP 0 rfl rfl 1 (by decide) wd0 rfl (.ref (hd 0)) rfl dX7_pay_1 ?_
  refine lv_aload_n hx hb dX7_pay_4 rfl (lv_at hl 0 rfl) ?_
  refine x_get hx hb (C := RX7) (T := TX7) (N := 4) (ci := 7) hts iX7 hown hK hP 0 rfl rfl 0 (by decide) wd1 rfl (.ref s0) rfl dX7_pay_5 ?_
  obtain ⟨SL_1, h_2, hf⟩ := bd1_el hf
  refine x_callVv (As := [.ref s0]) (rest := []) ⟨hx, hb, hml, hown, hts⟩ (mX1_prepare l D cy s0 s1 s2 s3 s4 s5 s6 s7 s8 s9 s10 s11 hd Asz Anu Aba Amo Aco Hsz Hla Hce Bsz Bla Bce Tma Tlc Ttc day lim low hig thr off cre rcp pay sv nx SL  SL_1 h_2) (cwV 1 hts (gcV_X1_prepare hbg wm_5_3) rfl rfl rfl kdX1_prepare ⟨Nat.le_of_ble_eq_true rfl, Nat.le_of_ble_eq_true rfl⟩) (w1 := [(a0, .inr (7, [.ref s0, .ref (hd 0), .ref t0, .ref k0]))] ++ (wX2 cy t0 t1 Xle Xch Xpo Xltr Xfi Xse Xth ++ (wX3 cy k0 k1 k2 Ksz Kcl Kke))) (w2 := []) (w' := wX7 cy a0 t0 t1 k0 k1 k2 s0 s1 s2 s3 s4 s5 s6 s7 s8 s9 s10 s11 hd Xle Xch Xpo Xltr Xfi Xse Xth Ksz Kcl Kke Asz Anu Aba Amo Aco Hsz Hla Hce Bsz Bla Bce Tma Tlc Ttc day lim low hig thr off cre rcp pay sv nx SL_1) (x_end rfl) (x_end rfl) hP hK hD hN hS hA (q0 := 12) rfl rfl rfl rfl hl rfl (Nat.le_of_ble_eq_true rfl) dX7_pay_8 ⟨Nat.zero_le _, Nat.zero_le _⟩ (fun H locs hP hD hS => ?_)
  refine lv_aload_n hx hb dX7_pay_11 rfl (lv_at hl 0 rfl) ?_
  refine lv_aload_n hx hb dX7_pay_12 rfl (lv_at hl 0 rfl) ?_
  refine x_get hx hb (C := RX7) (T := TX7) (N := 4) (ci := 7) hts iX7 hown hK hP 0 rfl rfl 0 (by decide) wd1 rfl (.ref s0) rfl dX7_pay_13 ?_
  refine lv_iload_n hx hb dX7_pay_16 rfl (lv_at hl 1 rfl) ?_
  refine lv_iload_n hx hb dX7_pay_17 rfl (lv_at hl 2 rfl) ?_
  obtain ⟨r_3, Aba_4, Amo_5, Tma_6, Tlc_7, Ttc_8, pay_9, h_10, hf⟩ := bd7_el hf
  refine x_callVi (As := [.int p1, .int p2]) (rest := [.ref a0]) ⟨hx, hb, hml, hown, hts⟩ (mX5_makePayment l D cy s0 s1 s2 s3 s4 s5 s6 s7 s8 s9 s10 s11 Asz Anu Aba Amo Aco Hsz Hla Hce Bsz Bla Bce Tma Tlc Ttc day lim low hig thr off cre rcp pay p1 p2 r_3 Aba_4 Amo_5 Tma_6 Tlc_7 Ttc_8 pay_9 h_10) (cwV 2 hts (gcV_X5_makePayment hbg wm_10_17) rfl rfl rfl kdX5_makePayment ⟨Nat.le_of_ble_eq_true rfl, Nat.le_of_ble_eq_true rfl⟩) (w1 := [(a0, .inr (7, [.ref s0, .ref (hd 0), .ref t0, .ref k0]))] ++ (wX2 cy t0 t1 Xle Xch Xpo Xltr Xfi Xse Xth ++ (wX3 cy k0 k1 k2 Ksz Kcl Kke))) (w2 := wX1 cy hd sv nx SL_1) (w' := wX7 cy a0 t0 t1 k0 k1 k2 s0 s1 s2 s3 s4 s5 s6 s7 s8 s9 s10 s11 hd Xle Xch Xpo Xltr Xfi Xse Xth Ksz Kcl Kke Asz Anu Aba_4 Amo_5 Aco Hsz Hla Hce Bsz Bla Bce Tma_6 Tlc_7 Ttc_8 day lim low hig thr off cre rcp pay_9 sv nx SL_1) rfl rfl hP hK hD hN hS hA (q0 := 0) rfl rfl rfl rfl hl rfl (Nat.le_of_ble_eq_true rfl) dX7_pay_18 ⟨Nat.zero_le _, Nat.zero_le _⟩ (fun H locs hP hD hS => ?_)
  obtain ⟨r_11, sv_12, nx_13, h_14, hf⟩ := bd3_el hf
  refine x_callVi (As := [.int r_3]) (rest := []) ⟨hx, hb, hml, hown, hts⟩ (mX7_keptUnlessError l D cy a0 t0 t1 k0 k1 k2 s0 s1 s2 s3 s4 s5 s6 s7 s8 s9 s10 s11 hd Xle Xch Xpo Xltr Xfi Xse Xth Ksz Kcl Kke Asz Anu Aba_4 Amo_5 Aco Hsz Hla Hce Bsz Bla Bce Tma_6 Tlc_7 Ttc_8 day lim low hig thr off cre rcp pay_9 sv nx SL_1 r_3 r_11 sv_12 nx_13 h_14) (cwV 1 hts (gcV_X7_keptUnlessError hbg wm_7_10) rfl rfl rfl kdX7_keptUnlessError ⟨Nat.le_of_ble_eq_true rfl, Nat.le_of_ble_eq_true rfl⟩) (w1 := []) (w2 := []) (w' := wX7 cy a0 t0 t1 k0 k1 k2 s0 s1 s2 s3 s4 s5 s6 s7 s8 s9 s10 s11 hd Xle Xch Xpo Xltr Xfi Xse Xth Ksz Kcl Kke Asz Anu Aba_4 Amo_5 Aco Hsz Hla Hce Bsz Bla Bce Tma_6 Tlc_7 Ttc_8 day lim low hig thr off cre rcp pay_9 sv_12 nx_13 SL_1) (List.append_nil _) (List.append_nil _) hP hK hD hN hS hA (q0 := 0) rfl rfl rfl rfl hl rfl (Nat.le_of_ble_eq_true rfl) dX7_pay_21 ⟨Nat.zero_le _, Nat.zero_le _⟩ (fun H locs hP hD hS => ?_)
  have hf := Option.some.inj hf
  cases hf
  exact x_iret hx hb hr hlocks hK hP hD hS dX7_pay_24
theorem kdX7_transfer : yX7_transfer.cls = RX7 ∧ yX7_transfer.cls ≠ "java/lang/invoke/MethodHandle" ∧ yX7_transfer.cls ≠ "java/lang/invoke/VarHandle" ∧ (parseMethodDescriptor yX7_transfer.desc).map (fun d => d.parameters.length) = some 3 := by decide +kernel
def rmX7_transfer : Room := { frames := 5, cells := 0, slots := 0, locals := 121 }
set_option maxHeartbeats 4000000 in
set_option maxRecDepth 100000 in
theorem mX7_transfer (l : Launch) (D : va_G) (cy : Nat → ClassId) (a0 t0 t1 k0 k1 k2 s0 s1 s2 s3 s4 s5 s6 s7 s8 s9 s10 s11 : Nat) (hd : Nat → Nat) (Xle : Int32) (Xch : Nat → Int32) (Xpo : Int32) (Xltr : Int32) (Xfi : Int32) (Xse : Int32) (Xth : Int32) (Ksz : Int32) (Kcl : Nat → Int32) (Kke : Nat → Int32) (Asz : Int32) (Anu : Nat → Int32) (Aba : Nat → Int32) (Amo : Nat → Int32) (Aco : Nat → Int64) (Hsz : Int32) (Hla : Int32) (Hce : Nat → Int32) (Bsz : Int32) (Bla : Int32) (Bce : Nat → Int32) (Tma : Int32) (Tlc : Int32) (Ttc : Nat → Int32) (day : Int32) (lim : Int32) (low : Int32) (hig : Int32) (thr : Int32) (off : Int64) (cre : Int64) (rcp : Int64) (pay : Int64) (sv : Int32) (nx : Int32) (SL : Nat → XS) (p1 : Int32) (p2 : Int32) (p3 : Int32) (r : Int32) (Aba' : Nat → Int32) (Amo' : Nat → Int32) (Tma' : Int32) (Tlc' : Int32) (Ttc' : Nat → Int32) (sv' : Int32) (nx' : Int32) (SL' : Nat → XS) (hf : fX7_transfer Asz Anu Aba Amo Aco Hsz Hla Hce Bsz Bla Bce Tma Tlc Ttc day lim low hig thr off cre rcp pay sv nx SL p1 p2 p3 = some (r, Aba', Amo', Tma', Tlc', Ttc', sv', nx', SL')) : xMi l D cy yX7_transfer aX7_transfer rmX7_transfer ([.ref a0, .int p1, .int p2, .int p3] : List Value) (wX7 cy a0 t0 t1 k0 k1 k2 s0 s1 s2 s3 s4 s5 s6 s7 s8 s9 s10 s11 hd Xle Xch Xpo Xltr Xfi Xse Xth Ksz Kcl Kke Asz Anu Aba Amo Aco Hsz Hla Hce Bsz Bla Bce Tma Tlc Ttc day lim low hig thr off cre rcp pay sv nx SL) (wX7 cy a0 t0 t1 k0 k1 k2 s0 s1 s2 s3 s4 s5 s6 s7 s8 s9 s10 s11 hd Xle Xch Xpo Xltr Xfi Xse Xth Ksz Kcl Kke Asz Anu Aba' Amo' Aco Hsz Hla Hce Bsz Bla Bce Tma' Tlc' Ttc' day lim low hig thr off cre rcp pay sv' nx' SL') r := by
  intro hz
  refine x_start (Qc := xQi D cy _ r) (cc := cX7_transfer) (maxL := 4) (ret := (some .int)) (by decide) rfl (Nat.le_of_ble_eq_true rfl) (lv := [(0, .ref a0), (1, .int p1), (2, .int p2), (3, .int p3)]) rfl ?_
  intro p e s m below meth c ls A hx hb hr hml hown hts hlocks hK hP hD hS hA hN hl
  have hown : s.vm.findClass RX7 = some m.cls := hown
  have hbg : ∀ w ∈ wsL_law, w ∈ aX7_transfer := fun w h => List.mem_cons_of_mem _ h
  have wd0 : (Cond.fieldLink RX7 19 "ClientMoneyBook" "history" "LClientMoneyBook$History;").before ([.ref a0, .int p1, .int p2, .int p3] : List Value).toArray s = true := hts _ (List.mem_cons_of_mem _ wm_1_5)
  have wd1 : (Cond.fieldLink RX7 10 "ClientMoneyBook" "state" "LClientMoneyBook$State;").before ([.ref a0, .int p1, .int p2, .int p3] : List Value).toArray s = true := hts _ (List.mem_cons_of_mem _ wm_1_1)
  have iX7 : ∀ w ∈ u_ws RX7 TX7 4, w ∈ aX7_transfer := fun w h => List.mem_cons_of_mem _ (inlX7 w h)
  unfold fX7_transfer at hf
  refine lv_aload_n hx hb dX7_transfer_0 rfl (lv_at hl 0 rfl) ?_
  refine x_get hx hb (C := RX7) (T := TX7) (N := 4) (ci := 7) hts iX7 hown hK hP 0 rfl rfl 1 (by decide) wd0 rfl (.ref (hd 0)) rfl dX7_transfer_1 ?_
  refine lv_aload_n hx hb dX7_transfer_4 rfl (lv_at hl 0 rfl) ?_
  refine x_get hx hb (C := RX7) (T := TX7) (N := 4) (ci := 7) hts iX7 hown hK hP 0 rfl rfl 0 (by decide) wd1 rfl (.ref s0) rfl dX7_transfer_5 ?_
  obtain ⟨SL_1, h_2, hf⟩ := bd1_el hf
  refine x_callVv (As := [.ref s0]) (rest := []) ⟨hx, hb, hml, hown, hts⟩ (mX1_prepare l D cy s0 s1 s2 s3 s4 s5 s6 s7 s8 s9 s10 s11 hd Asz Anu Aba Amo Aco Hsz Hla Hce Bsz Bla Bce Tma Tlc Ttc day lim low hig thr off cre rcp pay sv nx SL  SL_1 h_2) (cwV 1 hts (gcV_X1_prepare hbg wm_5_3) rfl rfl rfl kdX1_prepare ⟨Nat.le_of_ble_eq_true rfl, Nat.le_of_ble_eq_true rfl⟩) (w1 := [(a0, .inr (7, [.ref s0, .ref (hd 0), .ref t0, .ref k0]))] ++ (wX2 cy t0 t1 Xle Xch Xpo Xltr Xfi Xse Xth ++ (wX3 cy k0 k1 k2 Ksz Kcl Kke))) (w2 := []) (w' := wX7 cy a0 t0 t1 k0 k1 k2 s0 s1 s2 s3 s4 s5 s6 s7 s8 s9 s10 s11 hd Xle Xch Xpo Xltr Xfi Xse Xth Ksz Kcl Kke Asz Anu Aba Amo Aco Hsz Hla Hce Bsz Bla Bce Tma Tlc Ttc day lim low hig thr off cre rcp pay sv nx SL_1) (x_end rfl) (x_end rfl) hP hK hD hN hS hA (q0 := 12) rfl rfl rfl rfl hl rfl (Nat.le_of_ble_eq_true rfl) dX7_transfer_8 ⟨Nat.zero_le _, Nat.zero_le _⟩ (fun H locs hP hD hS => ?_)
  refine lv_aload_n hx hb dX7_transfer_11 rfl (lv_at hl 0 rfl) ?_
  refine lv_aload_n hx hb dX7_transfer_12 rfl (lv_at hl 0 rfl) ?_
  refine x_get hx hb (C := RX7) (T := TX7) (N := 4) (ci := 7) hts iX7 hown hK hP 0 rfl rfl 0 (by decide) wd1 rfl (.ref s0) rfl dX7_transfer_13 ?_
  refine lv_iload_n hx hb dX7_transfer_16 rfl (lv_at hl 1 rfl) ?_
  refine lv_iload_n hx hb dX7_transfer_17 rfl (lv_at hl 2 rfl) ?_
  refine lv_iload_n hx hb dX7_transfer_18 rfl (lv_at hl 3 rfl) ?_
  obtain ⟨r_3, Aba_4, Amo_5, Tma_6, Tlc_7, Ttc_8, h_9, hf⟩ := bd6_el hf
  refine x_callVi (As := [.int p1, .int p2, .int p3]) (rest := [.ref a0]) ⟨hx, hb, hml, hown, hts⟩ (mX5_makeTransfer l D cy s0 s1 s2 s3 s4 s5 s6 s7 s8 s9 s10 s11 Asz Anu Aba Amo Aco Hsz Hla Hce Bsz Bla Bce Tma Tlc Ttc day lim low hig thr off cre rcp pay p1 p2 p3 r_3 Aba_4 Amo_5 Tma_6 Tlc_7 Ttc_8 h_9) (cwV 3 hts (gcV_X5_makeTransfer hbg wm_11_14) rfl rfl rfl kdX5_makeTransfer ⟨Nat.le_of_ble_eq_true rfl, Nat.le_of_ble_eq_true rfl⟩) (w1 := [(a0, .inr (7, [.ref s0, .ref (hd 0), .ref t0, .ref k0]))] ++ (wX2 cy t0 t1 Xle Xch Xpo Xltr Xfi Xse Xth ++ (wX3 cy k0 k1 k2 Ksz Kcl Kke))) (w2 := wX1 cy hd sv nx SL_1) (w' := wX7 cy a0 t0 t1 k0 k1 k2 s0 s1 s2 s3 s4 s5 s6 s7 s8 s9 s10 s11 hd Xle Xch Xpo Xltr Xfi Xse Xth Ksz Kcl Kke Asz Anu Aba_4 Amo_5 Aco Hsz Hla Hce Bsz Bla Bce Tma_6 Tlc_7 Ttc_8 day lim low hig thr off cre rcp pay sv nx SL_1) rfl rfl hP hK hD hN hS hA (q0 := 0) rfl rfl rfl rfl hl rfl (Nat.le_of_ble_eq_true rfl) dX7_transfer_19 ⟨Nat.zero_le _, Nat.zero_le _⟩ (fun H locs hP hD hS => ?_)
  obtain ⟨r_10, sv_11, nx_12, h_13, hf⟩ := bd3_el hf
  refine x_callVi (As := [.int r_3]) (rest := []) ⟨hx, hb, hml, hown, hts⟩ (mX7_keptUnlessError l D cy a0 t0 t1 k0 k1 k2 s0 s1 s2 s3 s4 s5 s6 s7 s8 s9 s10 s11 hd Xle Xch Xpo Xltr Xfi Xse Xth Ksz Kcl Kke Asz Anu Aba_4 Amo_5 Aco Hsz Hla Hce Bsz Bla Bce Tma_6 Tlc_7 Ttc_8 day lim low hig thr off cre rcp pay sv nx SL_1 r_3 r_10 sv_11 nx_12 h_13) (cwV 1 hts (gcV_X7_keptUnlessError hbg wm_7_10) rfl rfl rfl kdX7_keptUnlessError ⟨Nat.le_of_ble_eq_true rfl, Nat.le_of_ble_eq_true rfl⟩) (w1 := []) (w2 := []) (w' := wX7 cy a0 t0 t1 k0 k1 k2 s0 s1 s2 s3 s4 s5 s6 s7 s8 s9 s10 s11 hd Xle Xch Xpo Xltr Xfi Xse Xth Ksz Kcl Kke Asz Anu Aba_4 Amo_5 Aco Hsz Hla Hce Bsz Bla Bce Tma_6 Tlc_7 Ttc_8 day lim low hig thr off cre rcp pay sv_11 nx_12 SL_1) (List.append_nil _) (List.append_nil _) hP hK hD hN hS hA (q0 := 0) rfl rfl rfl rfl hl rfl (Nat.le_of_ble_eq_true rfl) dX7_transfer_22 ⟨Nat.zero_le _, Nat.zero_le _⟩ (fun H locs hP hD hS => ?_)
  have hf := Option.some.inj hf
  cases hf
  exact x_iret hx hb hr hlocks hK hP hD hS dX7_transfer_25
theorem kdX7_hold : yX7_hold.cls = RX7 ∧ yX7_hold.cls ≠ "java/lang/invoke/MethodHandle" ∧ yX7_hold.cls ≠ "java/lang/invoke/VarHandle" ∧ (parseMethodDescriptor yX7_hold.desc).map (fun d => d.parameters.length) = some 3 := by decide +kernel
def rmX7_hold : Room := { frames := 4, cells := 0, slots := 0, locals := 112 }
set_option maxHeartbeats 4000000 in
set_option maxRecDepth 100000 in
theorem mX7_hold (l : Launch) (D : va_G) (cy : Nat → ClassId) (a0 t0 t1 k0 k1 k2 s0 s1 s2 s3 s4 s5 s6 s7 s8 s9 s10 s11 : Nat) (hd : Nat → Nat) (Xle : Int32) (Xch : Nat → Int32) (Xpo : Int32) (Xltr : Int32) (Xfi : Int32) (Xse : Int32) (Xth : Int32) (Ksz : Int32) (Kcl : Nat → Int32) (Kke : Nat → Int32) (Asz : Int32) (Anu : Nat → Int32) (Aba : Nat → Int32) (Amo : Nat → Int32) (Aco : Nat → Int64) (Hsz : Int32) (Hla : Int32) (Hce : Nat → Int32) (Bsz : Int32) (Bla : Int32) (Bce : Nat → Int32) (Tma : Int32) (Tlc : Int32) (Ttc : Nat → Int32) (day : Int32) (lim : Int32) (low : Int32) (hig : Int32) (thr : Int32) (off : Int64) (cre : Int64) (rcp : Int64) (pay : Int64) (sv : Int32) (nx : Int32) (SL : Nat → XS) (p1 : Int32) (p2 : Int32) (p3 : Int32) (r : Int32) (Hsz' : Int32) (Hla' : Int32) (Hce' : Nat → Int32) (sv' : Int32) (nx' : Int32) (SL' : Nat → XS) (hf : fX7_hold Asz Anu Aba Amo Aco Hsz Hla Hce Bsz Bla Bce Tma Tlc Ttc day lim low hig thr off cre rcp pay sv nx SL p1 p2 p3 = some (r, Hsz', Hla', Hce', sv', nx', SL')) : xMi l D cy yX7_hold aX7_hold rmX7_hold ([.ref a0, .int p1, .int p2, .int p3] : List Value) (wX7 cy a0 t0 t1 k0 k1 k2 s0 s1 s2 s3 s4 s5 s6 s7 s8 s9 s10 s11 hd Xle Xch Xpo Xltr Xfi Xse Xth Ksz Kcl Kke Asz Anu Aba Amo Aco Hsz Hla Hce Bsz Bla Bce Tma Tlc Ttc day lim low hig thr off cre rcp pay sv nx SL) (wX7 cy a0 t0 t1 k0 k1 k2 s0 s1 s2 s3 s4 s5 s6 s7 s8 s9 s10 s11 hd Xle Xch Xpo Xltr Xfi Xse Xth Ksz Kcl Kke Asz Anu Aba Amo Aco Hsz' Hla' Hce' Bsz Bla Bce Tma Tlc Ttc day lim low hig thr off cre rcp pay sv' nx' SL') r := by
  intro hz
  refine x_start (Qc := xQi D cy _ r) (cc := cX7_hold) (maxL := 4) (ret := (some .int)) (by decide) rfl (Nat.le_of_ble_eq_true rfl) (lv := [(0, .ref a0), (1, .int p1), (2, .int p2), (3, .int p3)]) rfl ?_
  intro p e s m below meth c ls A hx hb hr hml hown hts hlocks hK hP hD hS hA hN hl
  have hown : s.vm.findClass RX7 = some m.cls := hown
  have hbg : ∀ w ∈ wsL_law, w ∈ aX7_hold := fun w h => List.mem_cons_of_mem _ h
  have wd0 : (Cond.fieldLink RX7 19 "ClientMoneyBook" "history" "LClientMoneyBook$History;").before ([.ref a0, .int p1, .int p2, .int p3] : List Value).toArray s = true := hts _ (List.mem_cons_of_mem _ wm_1_5)
  have wd1 : (Cond.fieldLink RX7 10 "ClientMoneyBook" "state" "LClientMoneyBook$State;").before ([.ref a0, .int p1, .int p2, .int p3] : List Value).toArray s = true := hts _ (List.mem_cons_of_mem _ wm_1_1)
  have iX7 : ∀ w ∈ u_ws RX7 TX7 4, w ∈ aX7_hold := fun w h => List.mem_cons_of_mem _ (inlX7 w h)
  unfold fX7_hold at hf
  refine lv_aload_n hx hb dX7_hold_0 rfl (lv_at hl 0 rfl) ?_
  refine x_get hx hb (C := RX7) (T := TX7) (N := 4) (ci := 7) hts iX7 hown hK hP 0 rfl rfl 1 (by decide) wd0 rfl (.ref (hd 0)) rfl dX7_hold_1 ?_
  refine lv_aload_n hx hb dX7_hold_4 rfl (lv_at hl 0 rfl) ?_
  refine x_get hx hb (C := RX7) (T := TX7) (N := 4) (ci := 7) hts iX7 hown hK hP 0 rfl rfl 0 (by decide) wd1 rfl (.ref s0) rfl dX7_hold_5 ?_
  obtain ⟨SL_1, h_2, hf⟩ := bd1_el hf
  refine x_callVv (As := [.ref s0]) (rest := []) ⟨hx, hb, hml, hown, hts⟩ (mX1_prepare l D cy s0 s1 s2 s3 s4 s5 s6 s7 s8 s9 s10 s11 hd Asz Anu Aba Amo Aco Hsz Hla Hce Bsz Bla Bce Tma Tlc Ttc day lim low hig thr off cre rcp pay sv nx SL  SL_1 h_2) (cwV 1 hts (gcV_X1_prepare hbg wm_5_3) rfl rfl rfl kdX1_prepare ⟨Nat.le_of_ble_eq_true rfl, Nat.le_of_ble_eq_true rfl⟩) (w1 := [(a0, .inr (7, [.ref s0, .ref (hd 0), .ref t0, .ref k0]))] ++ (wX2 cy t0 t1 Xle Xch Xpo Xltr Xfi Xse Xth ++ (wX3 cy k0 k1 k2 Ksz Kcl Kke))) (w2 := []) (w' := wX7 cy a0 t0 t1 k0 k1 k2 s0 s1 s2 s3 s4 s5 s6 s7 s8 s9 s10 s11 hd Xle Xch Xpo Xltr Xfi Xse Xth Ksz Kcl Kke Asz Anu Aba Amo Aco Hsz Hla Hce Bsz Bla Bce Tma Tlc Ttc day lim low hig thr off cre rcp pay sv nx SL_1) (x_end rfl) (x_end rfl) hP hK hD hN hS hA (q0 := 12) rfl rfl rfl rfl hl rfl (Nat.le_of_ble_eq_true rfl) dX7_hold_8 ⟨Nat.zero_le _, Nat.zero_le _⟩ (fun H locs hP hD hS => ?_)
  refine lv_aload_n hx hb dX7_hold_11 rfl (lv_at hl 0 rfl) ?_
  refine lv_aload_n hx hb dX7_hold_12 rfl (lv_at hl 0 rfl) ?_
  refine x_get hx hb (C := RX7) (T := TX7) (N := 4) (ci := 7) hts iX7 hown hK hP 0 rfl rfl 0 (by decide) wd1 rfl (.ref s0) rfl dX7_hold_13 ?_
  refine lv_iload_n hx hb dX7_hold_16 rfl (lv_at hl 1 rfl) ?_
  refine lv_iload_n hx hb dX7_hold_17 rfl (lv_at hl 2 rfl) ?_
  refine lv_iload_n hx hb dX7_hold_18 rfl (lv_at hl 3 rfl) ?_
  obtain ⟨r_3, Hsz_4, Hla_5, Hce_6, h_7, hf⟩ := bd4_el hf
  refine x_callVi (As := [.int p1, .int p2, .int p3]) (rest := [.ref a0]) ⟨hx, hb, hml, hown, hts⟩ (mX5_makeHold l D cy s0 s1 s2 s3 s4 s5 s6 s7 s8 s9 s10 s11 Asz Anu Aba Amo Aco Hsz Hla Hce Bsz Bla Bce Tma Tlc Ttc day lim low hig thr off cre rcp pay p1 p2 p3 r_3 Hsz_4 Hla_5 Hce_6 h_7) (cwV 3 hts (gcV_X5_makeHold hbg wm_11_22) rfl rfl rfl kdX5_makeHold ⟨Nat.le_of_ble_eq_true rfl, Nat.le_of_ble_eq_true rfl⟩) (w1 := [(a0, .inr (7, [.ref s0, .ref (hd 0), .ref t0, .ref k0]))] ++ (wX2 cy t0 t1 Xle Xch Xpo Xltr Xfi Xse Xth ++ (wX3 cy k0 k1 k2 Ksz Kcl Kke))) (w2 := wX1 cy hd sv nx SL_1) (w' := wX7 cy a0 t0 t1 k0 k1 k2 s0 s1 s2 s3 s4 s5 s6 s7 s8 s9 s10 s11 hd Xle Xch Xpo Xltr Xfi Xse Xth Ksz Kcl Kke Asz Anu Aba Amo Aco Hsz_4 Hla_5 Hce_6 Bsz Bla Bce Tma Tlc Ttc day lim low hig thr off cre rcp pay sv nx SL_1) rfl rfl hP hK hD hN hS hA (q0 := 0) rfl rfl rfl rfl hl rfl (Nat.le_of_ble_eq_true rfl) dX7_hold_19 ⟨Nat.zero_le _, Nat.zero_le _⟩ (fun H locs hP hD hS => ?_)
  obtain ⟨r_8, sv_9, nx_10, h_11, hf⟩ := bd3_el hf
  refine x_callVi (As := [.int r_3]) (rest := []) ⟨hx, hb, hml, hown, hts⟩ (mX7_keptUnlessError l D cy a0 t0 t1 k0 k1 k2 s0 s1 s2 s3 s4 s5 s6 s7 s8 s9 s10 s11 hd Xle Xch Xpo Xltr Xfi Xse Xth Ksz Kcl Kke Asz Anu Aba Amo Aco Hsz_4 Hla_5 Hce_6 Bsz Bla Bce Tma Tlc Ttc day lim low hig thr off cre rcp pay sv nx SL_1 r_3 r_8 sv_9 nx_10 h_11) (cwV 1 hts (gcV_X7_keptUnlessError hbg wm_7_10) rfl rfl rfl kdX7_keptUnlessError ⟨Nat.le_of_ble_eq_true rfl, Nat.le_of_ble_eq_true rfl⟩) (w1 := []) (w2 := []) (w' := wX7 cy a0 t0 t1 k0 k1 k2 s0 s1 s2 s3 s4 s5 s6 s7 s8 s9 s10 s11 hd Xle Xch Xpo Xltr Xfi Xse Xth Ksz Kcl Kke Asz Anu Aba Amo Aco Hsz_4 Hla_5 Hce_6 Bsz Bla Bce Tma Tlc Ttc day lim low hig thr off cre rcp pay sv_9 nx_10 SL_1) (List.append_nil _) (List.append_nil _) hP hK hD hN hS hA (q0 := 0) rfl rfl rfl rfl hl rfl (Nat.le_of_ble_eq_true rfl) dX7_hold_22 ⟨Nat.zero_le _, Nat.zero_le _⟩ (fun H locs hP hD hS => ?_)
  have hf := Option.some.inj hf
  cases hf
  exact x_iret hx hb hr hlocks hK hP hD hS dX7_hold_25
theorem kdX7_release : yX7_release.cls = RX7 ∧ yX7_release.cls ≠ "java/lang/invoke/MethodHandle" ∧ yX7_release.cls ≠ "java/lang/invoke/VarHandle" ∧ (parseMethodDescriptor yX7_release.desc).map (fun d => d.parameters.length) = some 1 := by decide +kernel
def rmX7_release : Room := { frames := 4, cells := 0, slots := 0, locals := 112 }
set_option maxHeartbeats 4000000 in
set_option maxRecDepth 100000 in
theorem mX7_release (l : Launch) (D : va_G) (cy : Nat → ClassId) (a0 t0 t1 k0 k1 k2 s0 s1 s2 s3 s4 s5 s6 s7 s8 s9 s10 s11 : Nat) (hd : Nat → Nat) (Xle : Int32) (Xch : Nat → Int32) (Xpo : Int32) (Xltr : Int32) (Xfi : Int32) (Xse : Int32) (Xth : Int32) (Ksz : Int32) (Kcl : Nat → Int32) (Kke : Nat → Int32) (Asz : Int32) (Anu : Nat → Int32) (Aba : Nat → Int32) (Amo : Nat → Int32) (Aco : Nat → Int64) (Hsz : Int32) (Hla : Int32) (Hce : Nat → Int32) (Bsz : Int32) (Bla : Int32) (Bce : Nat → Int32) (Tma : Int32) (Tlc : Int32) (Ttc : Nat → Int32) (day : Int32) (lim : Int32) (low : Int32) (hig : Int32) (thr : Int32) (off : Int64) (cre : Int64) (rcp : Int64) (pay : Int64) (sv : Int32) (nx : Int32) (SL : Nat → XS) (p1 : Int32) (r : Int32) (Hsz' : Int32) (Hce' : Nat → Int32) (sv' : Int32) (nx' : Int32) (SL' : Nat → XS) (hf : fX7_release Asz Anu Aba Amo Aco Hsz Hla Hce Bsz Bla Bce Tma Tlc Ttc day lim low hig thr off cre rcp pay sv nx SL p1 = some (r, Hsz', Hce', sv', nx', SL')) : xMi l D cy yX7_release aX7_release rmX7_release ([.ref a0, .int p1] : List Value) (wX7 cy a0 t0 t1 k0 k1 k2 s0 s1 s2 s3 s4 s5 s6 s7 s8 s9 s10 s11 hd Xle Xch Xpo Xltr Xfi Xse Xth Ksz Kcl Kke Asz Anu Aba Amo Aco Hsz Hla Hce Bsz Bla Bce Tma Tlc Ttc day lim low hig thr off cre rcp pay sv nx SL) (wX7 cy a0 t0 t1 k0 k1 k2 s0 s1 s2 s3 s4 s5 s6 s7 s8 s9 s10 s11 hd Xle Xch Xpo Xltr Xfi Xse Xth Ksz Kcl Kke Asz Anu Aba Amo Aco Hsz' Hla Hce' Bsz Bla Bce Tma Tlc Ttc day lim low hig thr off cre rcp pay sv' nx' SL') r := by
  intro hz
  refine x_start (Qc := xQi D cy _ r) (cc := cX7_release) (maxL := 2) (ret := (some .int)) (by decide) rfl (Nat.le_of_ble_eq_true rfl) (lv := [(0, .ref a0), (1, .int p1)]) rfl ?_
  intro p e s m below meth c ls A hx hb hr hml hown hts hlocks hK hP hD hS hA hN hl
  have hown : s.vm.findClass RX7 = some m.cls := hown
  have hbg : ∀ w ∈ wsL_law, w ∈ aX7_release := fun w h => List.mem_cons_of_mem _ h
  have wd0 : (Cond.fieldLink RX7 19 "ClientMoneyBook" "history" "LClientMoneyBook$History;").before ([.ref a0, .int p1] : List Value).toArray s = true := hts _ (List.mem_cons_of_mem _ wm_1_5)
  have wd1 : (Cond.fieldLink RX7 10 "ClientMoneyBook" "state" "LClientMoneyBook$State;").before ([.ref a0, .int p1] : List Value).toArray s = true := hts _ (List.mem_cons_of_mem _ wm_1_1)
  have iX7 : ∀ w ∈ u_ws RX7 TX7 4, w ∈ aX7_release := fun w h => List.mem_cons_of_mem _ (inlX7 w h)
  unfold fX7_release at hf
  refine lv_aload_n hx hb dX7_release_0 rfl (lv_at hl 0 rfl) ?_
  refine x_get hx hb (C := RX7) (T := TX7) (N := 4) (ci := 7) hts iX7 hown hK hP 0 rfl rfl 1 (by decide) wd0 rfl (.ref (hd 0)) rfl dX7_release_1 ?_
  refine lv_aload_n hx hb dX7_release_4 rfl (lv_at hl 0 rfl) ?_
  refine x_get hx hb (C := RX7) (T := TX7) (N := 4) (ci := 7) hts iX7 hown hK hP 0 rfl rfl 0 (by decide) wd1 rfl (.ref s0) rfl dX7_release_5 ?_
  obtain ⟨SL_1, h_2, hf⟩ := bd1_el hf
  refine x_callVv (As := [.ref s0]) (rest := []) ⟨hx, hb, hml, hown, hts⟩ (mX1_prepare l D cy s0 s1 s2 s3 s4 s5 s6 s7 s8 s9 s10 s11 hd Asz Anu Aba Amo Aco Hsz Hla Hce Bsz Bla Bce Tma Tlc Ttc day lim low hig thr off cre rcp pay sv nx SL  SL_1 h_2) (cwV 1 hts (gcV_X1_prepare hbg wm_5_3) rfl rfl rfl kdX1_prepare ⟨Nat.le_of_ble_eq_true rfl, Nat.le_of_ble_eq_true rfl⟩) (w1 := [(a0, .inr (7, [.ref s0, .ref (hd 0), .ref t0, .ref k0]))] ++ (wX2 cy t0 t1 Xle Xch Xpo Xltr Xfi Xse Xth ++ (wX3 cy k0 k1 k2 Ksz Kcl Kke))) (w2 := []) (w' := wX7 cy a0 t0 t1 k0 k1 k2 s0 s1 s2 s3 s4 s5 s6 s7 s8 s9 s10 s11 hd Xle Xch Xpo Xltr Xfi Xse Xth Ksz Kcl Kke Asz Anu Aba Amo Aco Hsz Hla Hce Bsz Bla Bce Tma Tlc Ttc day lim low hig thr off cre rcp pay sv nx SL_1) (x_end rfl) (x_end rfl) hP hK hD hN hS hA (q0 := 12) rfl rfl rfl rfl hl rfl (Nat.le_of_ble_eq_true rfl) dX7_release_8 ⟨Nat.zero_le _, Nat.zero_le _⟩ (fun H locs hP hD hS => ?_)
  refine lv_aload_n hx hb dX7_release_11 rfl (lv_at hl 0 rfl) ?_
  refine lv_aload_n hx hb dX7_release_12 rfl (lv_at hl 0 rfl) ?_
  refine x_get hx hb (C := RX7) (T := TX7) (N := 4) (ci := 7) hts iX7 hown hK hP 0 rfl rfl 0 (by decide) wd1 rfl (.ref s0) rfl dX7_release_13 ?_
  refine lv_iload_n hx hb dX7_release_16 rfl (lv_at hl 1 rfl) ?_
  obtain ⟨r_3, Hsz_4, Hce_5, h_6, hf⟩ := bd3_el hf
  refine x_callVi (As := [.int p1]) (rest := [.ref a0]) ⟨hx, hb, hml, hown, hts⟩ (mX5_endHold l D cy s0 s1 s2 s3 s4 s5 s6 s7 s8 s9 s10 s11 Asz Anu Aba Amo Aco Hsz Hla Hce Bsz Bla Bce Tma Tlc Ttc day lim low hig thr off cre rcp pay p1 r_3 Hsz_4 Hce_5 h_6) (cwV 1 hts (gcV_X5_endHold hbg wm_12_15) rfl rfl rfl kdX5_endHold ⟨Nat.le_of_ble_eq_true rfl, Nat.le_of_ble_eq_true rfl⟩) (w1 := [(a0, .inr (7, [.ref s0, .ref (hd 0), .ref t0, .ref k0]))] ++ (wX2 cy t0 t1 Xle Xch Xpo Xltr Xfi Xse Xth ++ (wX3 cy k0 k1 k2 Ksz Kcl Kke))) (w2 := wX1 cy hd sv nx SL_1) (w' := wX7 cy a0 t0 t1 k0 k1 k2 s0 s1 s2 s3 s4 s5 s6 s7 s8 s9 s10 s11 hd Xle Xch Xpo Xltr Xfi Xse Xth Ksz Kcl Kke Asz Anu Aba Amo Aco Hsz_4 Hla Hce_5 Bsz Bla Bce Tma Tlc Ttc day lim low hig thr off cre rcp pay sv nx SL_1) rfl rfl hP hK hD hN hS hA (q0 := 0) rfl rfl rfl rfl hl rfl (Nat.le_of_ble_eq_true rfl) dX7_release_17 ⟨Nat.zero_le _, Nat.zero_le _⟩ (fun H locs hP hD hS => ?_)
  obtain ⟨r_7, sv_8, nx_9, h_10, hf⟩ := bd3_el hf
  refine x_callVi (As := [.int r_3]) (rest := []) ⟨hx, hb, hml, hown, hts⟩ (mX7_keptUnlessError l D cy a0 t0 t1 k0 k1 k2 s0 s1 s2 s3 s4 s5 s6 s7 s8 s9 s10 s11 hd Xle Xch Xpo Xltr Xfi Xse Xth Ksz Kcl Kke Asz Anu Aba Amo Aco Hsz_4 Hla Hce_5 Bsz Bla Bce Tma Tlc Ttc day lim low hig thr off cre rcp pay sv nx SL_1 r_3 r_7 sv_8 nx_9 h_10) (cwV 1 hts (gcV_X7_keptUnlessError hbg wm_7_10) rfl rfl rfl kdX7_keptUnlessError ⟨Nat.le_of_ble_eq_true rfl, Nat.le_of_ble_eq_true rfl⟩) (w1 := []) (w2 := []) (w' := wX7 cy a0 t0 t1 k0 k1 k2 s0 s1 s2 s3 s4 s5 s6 s7 s8 s9 s10 s11 hd Xle Xch Xpo Xltr Xfi Xse Xth Ksz Kcl Kke Asz Anu Aba Amo Aco Hsz_4 Hla Hce_5 Bsz Bla Bce Tma Tlc Ttc day lim low hig thr off cre rcp pay sv_8 nx_9 SL_1) (List.append_nil _) (List.append_nil _) hP hK hD hN hS hA (q0 := 0) rfl rfl rfl rfl hl rfl (Nat.le_of_ble_eq_true rfl) dX7_release_20 ⟨Nat.zero_le _, Nat.zero_le _⟩ (fun H locs hP hD hS => ?_)
  have hf := Option.some.inj hf
  cases hf
  exact x_iret hx hb hr hlocks hK hP hD hS dX7_release_23
theorem kdX7_bill : yX7_bill.cls = RX7 ∧ yX7_bill.cls ≠ "java/lang/invoke/MethodHandle" ∧ yX7_bill.cls ≠ "java/lang/invoke/VarHandle" ∧ (parseMethodDescriptor yX7_bill.desc).map (fun d => d.parameters.length) = some 2 := by decide +kernel
def rmX7_bill : Room := { frames := 4, cells := 0, slots := 0, locals := 112 }
set_option maxHeartbeats 4000000 in
set_option maxRecDepth 100000 in
theorem mX7_bill (l : Launch) (D : va_G) (cy : Nat → ClassId) (a0 t0 t1 k0 k1 k2 s0 s1 s2 s3 s4 s5 s6 s7 s8 s9 s10 s11 : Nat) (hd : Nat → Nat) (Xle : Int32) (Xch : Nat → Int32) (Xpo : Int32) (Xltr : Int32) (Xfi : Int32) (Xse : Int32) (Xth : Int32) (Ksz : Int32) (Kcl : Nat → Int32) (Kke : Nat → Int32) (Asz : Int32) (Anu : Nat → Int32) (Aba : Nat → Int32) (Amo : Nat → Int32) (Aco : Nat → Int64) (Hsz : Int32) (Hla : Int32) (Hce : Nat → Int32) (Bsz : Int32) (Bla : Int32) (Bce : Nat → Int32) (Tma : Int32) (Tlc : Int32) (Ttc : Nat → Int32) (day : Int32) (lim : Int32) (low : Int32) (hig : Int32) (thr : Int32) (off : Int64) (cre : Int64) (rcp : Int64) (pay : Int64) (sv : Int32) (nx : Int32) (SL : Nat → XS) (p1 : Int32) (p2 : Int32) (r : Int32) (Bsz' : Int32) (Bla' : Int32) (Bce' : Nat → Int32) (sv' : Int32) (nx' : Int32) (SL' : Nat → XS) (hf : fX7_bill Asz Anu Aba Amo Aco Hsz Hla Hce Bsz Bla Bce Tma Tlc Ttc day lim low hig thr off cre rcp pay sv nx SL p1 p2 = some (r, Bsz', Bla', Bce', sv', nx', SL')) : xMi l D cy yX7_bill aX7_bill rmX7_bill ([.ref a0, .int p1, .int p2] : List Value) (wX7 cy a0 t0 t1 k0 k1 k2 s0 s1 s2 s3 s4 s5 s6 s7 s8 s9 s10 s11 hd Xle Xch Xpo Xltr Xfi Xse Xth Ksz Kcl Kke Asz Anu Aba Amo Aco Hsz Hla Hce Bsz Bla Bce Tma Tlc Ttc day lim low hig thr off cre rcp pay sv nx SL) (wX7 cy a0 t0 t1 k0 k1 k2 s0 s1 s2 s3 s4 s5 s6 s7 s8 s9 s10 s11 hd Xle Xch Xpo Xltr Xfi Xse Xth Ksz Kcl Kke Asz Anu Aba Amo Aco Hsz Hla Hce Bsz' Bla' Bce' Tma Tlc Ttc day lim low hig thr off cre rcp pay sv' nx' SL') r := by
  intro hz
  refine x_start (Qc := xQi D cy _ r) (cc := cX7_bill) (maxL := 3) (ret := (some .int)) (by decide) rfl (Nat.le_of_ble_eq_true rfl) (lv := [(0, .ref a0), (1, .int p1), (2, .int p2)]) rfl ?_
  intro p e s m below meth c ls A hx hb hr hml hown hts hlocks hK hP hD hS hA hN hl
  have hown : s.vm.findClass RX7 = some m.cls := hown
  have hbg : ∀ w ∈ wsL_law, w ∈ aX7_bill := fun w h => List.mem_cons_of_mem _ h
  have wd0 : (Cond.fieldLink RX7 19 "ClientMoneyBook" "history" "LClientMoneyBook$History;").before ([.ref a0, .int p1, .int p2] : List Value).toArray s = true := hts _ (List.mem_cons_of_mem _ wm_1_5)
  have wd1 : (Cond.fieldLink RX7 10 "ClientMoneyBook" "state" "LClientMoneyBook$State;").before ([.ref a0, .int p1, .int p2] : List Value).toArray s = true := hts _ (List.mem_cons_of_mem _ wm_1_1)
  have iX7 : ∀ w ∈ u_ws RX7 TX7 4, w ∈ aX7_bill := fun w h => List.mem_cons_of_mem _ (inlX7 w h)
  unfold fX7_bill at hf
  refine lv_aload_n hx hb dX7_bill_0 rfl (lv_at hl 0 rfl) ?_
  refine x_get hx hb (C := RX7) (T := TX7) (N := 4) (ci := 7) hts iX7 hown hK hP 0 rfl rfl 1 (by decide) wd0 rfl (.ref (hd 0)) rfl dX7_bill_1 ?_
  refine lv_aload_n hx hb dX7_bill_4 rfl (lv_at hl 0 rfl) ?_
  refine x_get hx hb (C := RX7) (T := TX7) (N := 4) (ci := 7) hts iX7 hown hK hP 0 rfl rfl 0 (by decide) wd1 rfl (.ref s0) rfl dX7_bill_5 ?_
  obtain ⟨SL_1, h_2, hf⟩ := bd1_el hf
  refine x_callVv (As := [.ref s0]) (rest := []) ⟨hx, hb, hml, hown, hts⟩ (mX1_prepare l D cy s0 s1 s2 s3 s4 s5 s6 s7 s8 s9 s10 s11 hd Asz Anu Aba Amo Aco Hsz Hla Hce Bsz Bla Bce Tma Tlc Ttc day lim low hig thr off cre rcp pay sv nx SL  SL_1 h_2) (cwV 1 hts (gcV_X1_prepare hbg wm_5_3) rfl rfl rfl kdX1_prepare ⟨Nat.le_of_ble_eq_true rfl, Nat.le_of_ble_eq_true rfl⟩) (w1 := [(a0, .inr (7, [.ref s0, .ref (hd 0), .ref t0, .ref k0]))] ++ (wX2 cy t0 t1 Xle Xch Xpo Xltr Xfi Xse Xth ++ (wX3 cy k0 k1 k2 Ksz Kcl Kke))) (w2 := []) (w' := wX7 cy a0 t0 t1 k0 k1 k2 s0 s1 s2 s3 s4 s5 s6 s7 s8 s9 s10 s11 hd Xle Xch Xpo Xltr Xfi Xse Xth Ksz Kcl Kke Asz Anu Aba Amo Aco Hsz Hla Hce Bsz Bla Bce Tma Tlc Ttc day lim low hig thr off cre rcp pay sv nx SL_1) (x_end rfl) (x_end rfl) hP hK hD hN hS hA (q0 := 12) rfl rfl rfl rfl hl rfl (Nat.le_of_ble_eq_true rfl) dX7_bill_8 ⟨Nat.zero_le _, Nat.zero_le _⟩ (fun H locs hP hD hS => ?_)
  refine lv_aload_n hx hb dX7_bill_11 rfl (lv_at hl 0 rfl) ?_
  refine lv_aload_n hx hb dX7_bill_12 rfl (lv_at hl 0 rfl) ?_
  refine x_get hx hb (C := RX7) (T := TX7) (N := 4) (ci := 7) hts iX7 hown hK hP 0 rfl rfl 0 (by decide) wd1 rfl (.ref s0) rfl dX7_bill_13 ?_
  refine lv_iload_n hx hb dX7_bill_16 rfl (lv_at hl 1 rfl) ?_
  refine lv_iload_n hx hb dX7_bill_17 rfl (lv_at hl 2 rfl) ?_
  obtain ⟨r_3, Bsz_4, Bla_5, Bce_6, h_7, hf⟩ := bd4_el hf
  refine x_callVi (As := [.int p1, .int p2]) (rest := [.ref a0]) ⟨hx, hb, hml, hown, hts⟩ (mX5_writeBill l D cy s0 s1 s2 s3 s4 s5 s6 s7 s8 s9 s10 s11 Asz Anu Aba Amo Aco Hsz Hla Hce Bsz Bla Bce Tma Tlc Ttc day lim low hig thr off cre rcp pay p1 p2 r_3 Bsz_4 Bla_5 Bce_6 h_7) (cwV 2 hts (gcV_X5_writeBill hbg wm_13_8) rfl rfl rfl kdX5_writeBill ⟨Nat.le_of_ble_eq_true rfl, Nat.le_of_ble_eq_true rfl⟩) (w1 := [(a0, .inr (7, [.ref s0, .ref (hd 0), .ref t0, .ref k0]))] ++ (wX2 cy t0 t1 Xle Xch Xpo Xltr Xfi Xse Xth ++ (wX3 cy k0 k1 k2 Ksz Kcl Kke))) (w2 := wX1 cy hd sv nx SL_1) (w' := wX7 cy a0 t0 t1 k0 k1 k2 s0 s1 s2 s3 s4 s5 s6 s7 s8 s9 s10 s11 hd Xle Xch Xpo Xltr Xfi Xse Xth Ksz Kcl Kke Asz Anu Aba Amo Aco Hsz Hla Hce Bsz_4 Bla_5 Bce_6 Tma Tlc Ttc day lim low hig thr off cre rcp pay sv nx SL_1) rfl rfl hP hK hD hN hS hA (q0 := 0) rfl rfl rfl rfl hl rfl (Nat.le_of_ble_eq_true rfl) dX7_bill_18 ⟨Nat.zero_le _, Nat.zero_le _⟩ (fun H locs hP hD hS => ?_)
  obtain ⟨r_8, sv_9, nx_10, h_11, hf⟩ := bd3_el hf
  refine x_callVi (As := [.int r_3]) (rest := []) ⟨hx, hb, hml, hown, hts⟩ (mX7_keptUnlessError l D cy a0 t0 t1 k0 k1 k2 s0 s1 s2 s3 s4 s5 s6 s7 s8 s9 s10 s11 hd Xle Xch Xpo Xltr Xfi Xse Xth Ksz Kcl Kke Asz Anu Aba Amo Aco Hsz Hla Hce Bsz_4 Bla_5 Bce_6 Tma Tlc Ttc day lim low hig thr off cre rcp pay sv nx SL_1 r_3 r_8 sv_9 nx_10 h_11) (cwV 1 hts (gcV_X7_keptUnlessError hbg wm_7_10) rfl rfl rfl kdX7_keptUnlessError ⟨Nat.le_of_ble_eq_true rfl, Nat.le_of_ble_eq_true rfl⟩) (w1 := []) (w2 := []) (w' := wX7 cy a0 t0 t1 k0 k1 k2 s0 s1 s2 s3 s4 s5 s6 s7 s8 s9 s10 s11 hd Xle Xch Xpo Xltr Xfi Xse Xth Ksz Kcl Kke Asz Anu Aba Amo Aco Hsz Hla Hce Bsz_4 Bla_5 Bce_6 Tma Tlc Ttc day lim low hig thr off cre rcp pay sv_9 nx_10 SL_1) (List.append_nil _) (List.append_nil _) hP hK hD hN hS hA (q0 := 0) rfl rfl rfl rfl hl rfl (Nat.le_of_ble_eq_true rfl) dX7_bill_21 ⟨Nat.zero_le _, Nat.zero_le _⟩ (fun H locs hP hD hS => ?_)
  have hf := Option.some.inj hf
  cases hf
  exact x_iret hx hb hr hlocks hK hP hD hS dX7_bill_24
theorem kdX7_settle : yX7_settle.cls = RX7 ∧ yX7_settle.cls ≠ "java/lang/invoke/MethodHandle" ∧ yX7_settle.cls ≠ "java/lang/invoke/VarHandle" ∧ (parseMethodDescriptor yX7_settle.desc).map (fun d => d.parameters.length) = some 1 := by decide +kernel
def rmX7_settle : Room := { frames := 5, cells := 0, slots := 0, locals := 122 }
set_option maxHeartbeats 4000000 in
set_option maxRecDepth 100000 in
theorem mX7_settle (l : Launch) (D : va_G) (cy : Nat → ClassId) (a0 t0 t1 k0 k1 k2 s0 s1 s2 s3 s4 s5 s6 s7 s8 s9 s10 s11 : Nat) (hd : Nat → Nat) (Xle : Int32) (Xch : Nat → Int32) (Xpo : Int32) (Xltr : Int32) (Xfi : Int32) (Xse : Int32) (Xth : Int32) (Ksz : Int32) (Kcl : Nat → Int32) (Kke : Nat → Int32) (Asz : Int32) (Anu : Nat → Int32) (Aba : Nat → Int32) (Amo : Nat → Int32) (Aco : Nat → Int64) (Hsz : Int32) (Hla : Int32) (Hce : Nat → Int32) (Bsz : Int32) (Bla : Int32) (Bce : Nat → Int32) (Tma : Int32) (Tlc : Int32) (Ttc : Nat → Int32) (day : Int32) (lim : Int32) (low : Int32) (hig : Int32) (thr : Int32) (off : Int64) (cre : Int64) (rcp : Int64) (pay : Int64) (sv : Int32) (nx : Int32) (SL : Nat → XS) (p1 : Int32) (r : Int32) (Aba' : Nat → Int32) (Amo' : Nat → Int32) (Bsz' : Int32) (Bce' : Nat → Int32) (Tma' : Int32) (Tlc' : Int32) (Ttc' : Nat → Int32) (off' : Int64) (sv' : Int32) (nx' : Int32) (SL' : Nat → XS) (hf : fX7_settle Asz Anu Aba Amo Aco Hsz Hla Hce Bsz Bla Bce Tma Tlc Ttc day lim low hig thr off cre rcp pay sv nx SL p1 = some (r, Aba', Amo', Bsz', Bce', Tma', Tlc', Ttc', off', sv', nx', SL')) : xMi l D cy yX7_settle aX7_settle rmX7_settle ([.ref a0, .int p1] : List Value) (wX7 cy a0 t0 t1 k0 k1 k2 s0 s1 s2 s3 s4 s5 s6 s7 s8 s9 s10 s11 hd Xle Xch Xpo Xltr Xfi Xse Xth Ksz Kcl Kke Asz Anu Aba Amo Aco Hsz Hla Hce Bsz Bla Bce Tma Tlc Ttc day lim low hig thr off cre rcp pay sv nx SL) (wX7 cy a0 t0 t1 k0 k1 k2 s0 s1 s2 s3 s4 s5 s6 s7 s8 s9 s10 s11 hd Xle Xch Xpo Xltr Xfi Xse Xth Ksz Kcl Kke Asz Anu Aba' Amo' Aco Hsz Hla Hce Bsz' Bla Bce' Tma' Tlc' Ttc' day lim low hig thr off' cre rcp pay sv' nx' SL') r := by
  intro hz
  refine x_start (Qc := xQi D cy _ r) (cc := cX7_settle) (maxL := 2) (ret := (some .int)) (by decide) rfl (Nat.le_of_ble_eq_true rfl) (lv := [(0, .ref a0), (1, .int p1)]) rfl ?_
  intro p e s m below meth c ls A hx hb hr hml hown hts hlocks hK hP hD hS hA hN hl
  have hown : s.vm.findClass RX7 = some m.cls := hown
  have hbg : ∀ w ∈ wsL_law, w ∈ aX7_settle := fun w h => List.mem_cons_of_mem _ h
  have wd0 : (Cond.fieldLink RX7 19 "ClientMoneyBook" "history" "LClientMoneyBook$History;").before ([.ref a0, .int p1] : List Value).toArray s = true := hts _ (List.mem_cons_of_mem _ wm_1_5)
  have wd1 : (Cond.fieldLink RX7 10 "ClientMoneyBook" "state" "LClientMoneyBook$State;").before ([.ref a0, .int p1] : List Value).toArray s = true := hts _ (List.mem_cons_of_mem _ wm_1_1)
  have iX7 : ∀ w ∈ u_ws RX7 TX7 4, w ∈ aX7_settle := fun w h => List.mem_cons_of_mem _ (inlX7 w h)
  unfold fX7_settle at hf
  refine lv_aload_n hx hb dX7_settle_0 rfl (lv_at hl 0 rfl) ?_
  refine x_get hx hb (C := RX7) (T := TX7) (N := 4) (ci := 7) hts iX7 hown hK hP 0 rfl rfl 1 (by decide) wd0 rfl (.ref (hd 0)) rfl dX7_settle_1 ?_
  refine lv_aload_n hx hb dX7_settle_4 rfl (lv_at hl 0 rfl) ?_
  refine x_get hx hb (C := RX7) (T := TX7) (N := 4) (ci := 7) hts iX7 hown hK hP 0 rfl rfl 0 (by decide) wd1 rfl (.ref s0) rfl dX7_settle_5 ?_
  obtain ⟨SL_1, h_2, hf⟩ := bd1_el hf
  refine x_callVv (As := [.ref s0]) (rest := []) ⟨hx, hb, hml, hown, hts⟩ (mX1_prepare l D cy s0 s1 s2 s3 s4 s5 s6 s7 s8 s9 s10 s11 hd Asz Anu Aba Amo Aco Hsz Hla Hce Bsz Bla Bce Tma Tlc Ttc day lim low hig thr off cre rcp pay sv nx SL  SL_1 h_2) (cwV 1 hts (gcV_X1_prepare hbg wm_5_3) rfl rfl rfl kdX1_prepare ⟨Nat.le_of_ble_eq_true rfl, Nat.le_of_ble_eq_true rfl⟩) (w1 := [(a0, .inr (7, [.ref s0, .ref (hd 0), .ref t0, .ref k0]))] ++ (wX2 cy t0 t1 Xle Xch Xpo Xltr Xfi Xse Xth ++ (wX3 cy k0 k1 k2 Ksz Kcl Kke))) (w2 := []) (w' := wX7 cy a0 t0 t1 k0 k1 k2 s0 s1 s2 s3 s4 s5 s6 s7 s8 s9 s10 s11 hd Xle Xch Xpo Xltr Xfi Xse Xth Ksz Kcl Kke Asz Anu Aba Amo Aco Hsz Hla Hce Bsz Bla Bce Tma Tlc Ttc day lim low hig thr off cre rcp pay sv nx SL_1) (x_end rfl) (x_end rfl) hP hK hD hN hS hA (q0 := 12) rfl rfl rfl rfl hl rfl (Nat.le_of_ble_eq_true rfl) dX7_settle_8 ⟨Nat.zero_le _, Nat.zero_le _⟩ (fun H locs hP hD hS => ?_)
  refine lv_aload_n hx hb dX7_settle_11 rfl (lv_at hl 0 rfl) ?_
  refine lv_aload_n hx hb dX7_settle_12 rfl (lv_at hl 0 rfl) ?_
  refine x_get hx hb (C := RX7) (T := TX7) (N := 4) (ci := 7) hts iX7 hown hK hP 0 rfl rfl 0 (by decide) wd1 rfl (.ref s0) rfl dX7_settle_13 ?_
  refine lv_iload_n hx hb dX7_settle_16 rfl (lv_at hl 1 rfl) ?_
  obtain ⟨r_3, Aba_4, Amo_5, Bsz_6, Bce_7, Tma_8, Tlc_9, Ttc_10, off_11, h_12, hf⟩ := bd9_el hf
  refine x_callVi (As := [.int p1]) (rest := [.ref a0]) ⟨hx, hb, hml, hown, hts⟩ (mX5_settleBill l D cy s0 s1 s2 s3 s4 s5 s6 s7 s8 s9 s10 s11 Asz Anu Aba Amo Aco Hsz Hla Hce Bsz Bla Bce Tma Tlc Ttc day lim low hig thr off cre rcp pay p1 r_3 Aba_4 Amo_5 Bsz_6 Bce_7 Tma_8 Tlc_9 Ttc_10 off_11 h_12) (cwV 1 hts (gcV_X5_settleBill hbg wm_13_16) rfl rfl rfl kdX5_settleBill ⟨Nat.le_of_ble_eq_true rfl, Nat.le_of_ble_eq_true rfl⟩) (w1 := [(a0, .inr (7, [.ref s0, .ref (hd 0), .ref t0, .ref k0]))] ++ (wX2 cy t0 t1 Xle Xch Xpo Xltr Xfi Xse Xth ++ (wX3 cy k0 k1 k2 Ksz Kcl Kke))) (w2 := wX1 cy hd sv nx SL_1) (w' := wX7 cy a0 t0 t1 k0 k1 k2 s0 s1 s2 s3 s4 s5 s6 s7 s8 s9 s10 s11 hd Xle Xch Xpo Xltr Xfi Xse Xth Ksz Kcl Kke Asz Anu Aba_4 Amo_5 Aco Hsz Hla Hce Bsz_6 Bla Bce_7 Tma_8 Tlc_9 Ttc_10 day lim low hig thr off_11 cre rcp pay sv nx SL_1) rfl rfl hP hK hD hN hS hA (q0 := 0) rfl rfl rfl rfl hl rfl (Nat.le_of_ble_eq_true rfl) dX7_settle_17 ⟨Nat.zero_le _, Nat.zero_le _⟩ (fun H locs hP hD hS => ?_)
  obtain ⟨r_13, sv_14, nx_15, h_16, hf⟩ := bd3_el hf
  refine x_callVi (As := [.int r_3]) (rest := []) ⟨hx, hb, hml, hown, hts⟩ (mX7_keptUnlessError l D cy a0 t0 t1 k0 k1 k2 s0 s1 s2 s3 s4 s5 s6 s7 s8 s9 s10 s11 hd Xle Xch Xpo Xltr Xfi Xse Xth Ksz Kcl Kke Asz Anu Aba_4 Amo_5 Aco Hsz Hla Hce Bsz_6 Bla Bce_7 Tma_8 Tlc_9 Ttc_10 day lim low hig thr off_11 cre rcp pay sv nx SL_1 r_3 r_13 sv_14 nx_15 h_16) (cwV 1 hts (gcV_X7_keptUnlessError hbg wm_7_10) rfl rfl rfl kdX7_keptUnlessError ⟨Nat.le_of_ble_eq_true rfl, Nat.le_of_ble_eq_true rfl⟩) (w1 := []) (w2 := []) (w' := wX7 cy a0 t0 t1 k0 k1 k2 s0 s1 s2 s3 s4 s5 s6 s7 s8 s9 s10 s11 hd Xle Xch Xpo Xltr Xfi Xse Xth Ksz Kcl Kke Asz Anu Aba_4 Amo_5 Aco Hsz Hla Hce Bsz_6 Bla Bce_7 Tma_8 Tlc_9 Ttc_10 day lim low hig thr off_11 cre rcp pay sv_14 nx_15 SL_1) (List.append_nil _) (List.append_nil _) hP hK hD hN hS hA (q0 := 0) rfl rfl rfl rfl hl rfl (Nat.le_of_ble_eq_true rfl) dX7_settle_20 ⟨Nat.zero_le _, Nat.zero_le _⟩ (fun H locs hP hD hS => ?_)
  have hf := Option.some.inj hf
  cases hf
  exact x_iret hx hb hr hlocks hK hP hD hS dX7_settle_23
theorem kdX7_pass : yX7_pass.cls = RX7 ∧ yX7_pass.cls ≠ "java/lang/invoke/MethodHandle" ∧ yX7_pass.cls ≠ "java/lang/invoke/VarHandle" ∧ (parseMethodDescriptor yX7_pass.desc).map (fun d => d.parameters.length) = some 1 := by decide +kernel
def rmX7_pass : Room := { frames := 6, cells := 0, slots := 0, locals := 143 }
set_option maxHeartbeats 4000000 in
set_option maxRecDepth 100000 in
theorem mX7_pass (l : Launch) (D : va_G) (cy : Nat → ClassId) (a0 t0 t1 k0 k1 k2 s0 s1 s2 s3 s4 s5 s6 s7 s8 s9 s10 s11 : Nat) (hd : Nat → Nat) (Xle : Int32) (Xch : Nat → Int32) (Xpo : Int32) (Xltr : Int32) (Xfi : Int32) (Xse : Int32) (Xth : Int32) (Ksz : Int32) (Kcl : Nat → Int32) (Kke : Nat → Int32) (Asz : Int32) (Anu : Nat → Int32) (Aba : Nat → Int32) (Amo : Nat → Int32) (Aco : Nat → Int64) (Hsz : Int32) (Hla : Int32) (Hce : Nat → Int32) (Bsz : Int32) (Bla : Int32) (Bce : Nat → Int32) (Tma : Int32) (Tlc : Int32) (Ttc : Nat → Int32) (day : Int32) (lim : Int32) (low : Int32) (hig : Int32) (thr : Int32) (off : Int64) (cre : Int64) (rcp : Int64) (pay : Int64) (sv : Int32) (nx : Int32) (SL : Nat → XS) (p1 : Int32) (r : Int64) (Aba' : Nat → Int32) (Amo' : Nat → Int32) (Aco' : Nat → Int64) (Hsz' : Int32) (Hce' : Nat → Int32) (Tma' : Int32) (Tlc' : Int32) (Ttc' : Nat → Int32) (day' : Int32) (cre' : Int64) (sv' : Int32) (nx' : Int32) (SL' : Nat → XS) (hf : fX7_pass Asz Anu Aba Amo Aco Hsz Hla Hce Bsz Bla Bce Tma Tlc Ttc day lim low hig thr off cre rcp pay sv nx SL p1 = some (r, Aba', Amo', Aco', Hsz', Hce', Tma', Tlc', Ttc', day', cre', sv', nx', SL')) : xMl l D cy yX7_pass aX7_pass rmX7_pass ([.ref a0, .int p1] : List Value) (wX7 cy a0 t0 t1 k0 k1 k2 s0 s1 s2 s3 s4 s5 s6 s7 s8 s9 s10 s11 hd Xle Xch Xpo Xltr Xfi Xse Xth Ksz Kcl Kke Asz Anu Aba Amo Aco Hsz Hla Hce Bsz Bla Bce Tma Tlc Ttc day lim low hig thr off cre rcp pay sv nx SL) (wX7 cy a0 t0 t1 k0 k1 k2 s0 s1 s2 s3 s4 s5 s6 s7 s8 s9 s10 s11 hd Xle Xch Xpo Xltr Xfi Xse Xth Ksz Kcl Kke Asz Anu Aba' Amo' Aco' Hsz' Hla Hce' Bsz Bla Bce Tma' Tlc' Ttc' day' lim low hig thr off cre' rcp pay sv' nx' SL') r := by
  intro hz
  refine x_start (Qc := xQl D cy _ r) (cc := cX7_pass) (maxL := 4) (ret := (some .long)) (by decide) rfl (Nat.le_of_ble_eq_true rfl) (lv := [(0, .ref a0), (1, .int p1)]) rfl ?_
  intro p e s m below meth c ls A hx hb hr hml hown hts hlocks hK hP hD hS hA hN hl
  have hown : s.vm.findClass RX7 = some m.cls := hown
  have hbg : ∀ w ∈ wsL_law, w ∈ aX7_pass := fun w h => List.mem_cons_of_mem _ h
  have wd0 : (Cond.fieldLink RX7 19 "ClientMoneyBook" "history" "LClientMoneyBook$History;").before ([.ref a0, .int p1] : List Value).toArray s = true := hts _ (List.mem_cons_of_mem _ wm_1_5)
  have wd1 : (Cond.fieldLink RX7 10 "ClientMoneyBook" "state" "LClientMoneyBook$State;").before ([.ref a0, .int p1] : List Value).toArray s = true := hts _ (List.mem_cons_of_mem _ wm_1_1)
  have iX7 : ∀ w ∈ u_ws RX7 TX7 4, w ∈ aX7_pass := fun w h => List.mem_cons_of_mem _ (inlX7 w h)
  unfold fX7_pass at hf
  refine lv_aload_n hx hb dX7_pass_0 rfl (lv_at hl 0 rfl) ?_
  refine x_get hx hb (C := RX7) (T := TX7) (N := 4) (ci := 7) hts iX7 hown hK hP 0 rfl rfl 1 (by decide) wd0 rfl (.ref (hd 0)) rfl dX7_pass_1 ?_
  refine lv_aload_n hx hb dX7_pass_4 rfl (lv_at hl 0 rfl) ?_
  refine x_get hx hb (C := RX7) (T := TX7) (N := 4) (ci := 7) hts iX7 hown hK hP 0 rfl rfl 0 (by decide) wd1 rfl (.ref s0) rfl dX7_pass_5 ?_
  obtain ⟨SL_1, h_2, hf⟩ := bd1_el hf
  refine x_callVv (As := [.ref s0]) (rest := []) ⟨hx, hb, hml, hown, hts⟩ (mX1_prepare l D cy s0 s1 s2 s3 s4 s5 s6 s7 s8 s9 s10 s11 hd Asz Anu Aba Amo Aco Hsz Hla Hce Bsz Bla Bce Tma Tlc Ttc day lim low hig thr off cre rcp pay sv nx SL  SL_1 h_2) (cwV 1 hts (gcV_X1_prepare hbg wm_5_3) rfl rfl rfl kdX1_prepare ⟨Nat.le_of_ble_eq_true rfl, Nat.le_of_ble_eq_true rfl⟩) (w1 := [(a0, .inr (7, [.ref s0, .ref (hd 0), .ref t0, .ref k0]))] ++ (wX2 cy t0 t1 Xle Xch Xpo Xltr Xfi Xse Xth ++ (wX3 cy k0 k1 k2 Ksz Kcl Kke))) (w2 := []) (w' := wX7 cy a0 t0 t1 k0 k1 k2 s0 s1 s2 s3 s4 s5 s6 s7 s8 s9 s10 s11 hd Xle Xch Xpo Xltr Xfi Xse Xth Ksz Kcl Kke Asz Anu Aba Amo Aco Hsz Hla Hce Bsz Bla Bce Tma Tlc Ttc day lim low hig thr off cre rcp pay sv nx SL_1) (x_end rfl) (x_end rfl) hP hK hD hN hS hA (q0 := 12) rfl rfl rfl rfl hl rfl (Nat.le_of_ble_eq_true rfl) dX7_pass_8 ⟨Nat.zero_le _, Nat.zero_le _⟩ (fun H locs hP hD hS => ?_)
  refine lv_aload_n hx hb dX7_pass_11 rfl (lv_at hl 0 rfl) ?_
  refine x_get hx hb (C := RX7) (T := TX7) (N := 4) (ci := 7) hts iX7 hown hK hP 0 rfl rfl 0 (by decide) wd1 rfl (.ref s0) rfl dX7_pass_12 ?_
  refine lv_iload_n hx hb dX7_pass_15 rfl (lv_at hl 1 rfl) ?_
  obtain ⟨r_3, Aba_4, Amo_5, Aco_6, Hsz_7, Hce_8, Tma_9, Tlc_10, Ttc_11, day_12, cre_13, h_14, hf⟩ := bd11_el hf
  refine x_callVl (As := [.int p1]) (rest := []) ⟨hx, hb, hml, hown, hts⟩ (mX5_letPass l D cy s0 s1 s2 s3 s4 s5 s6 s7 s8 s9 s10 s11 Asz Anu Aba Amo Aco Hsz Hla Hce Bsz Bla Bce Tma Tlc Ttc day lim low hig thr off cre rcp pay p1 r_3 Aba_4 Amo_5 Aco_6 Hsz_7 Hce_8 Tma_9 Tlc_10 Ttc_11 day_12 cre_13 h_14) (cwV 1 hts (gcV_X5_letPass hbg wm_15_23) rfl rfl rfl kdX5_letPass ⟨Nat.le_of_ble_eq_true rfl, Nat.le_of_ble_eq_true rfl⟩) (w1 := [(a0, .inr (7, [.ref s0, .ref (hd 0), .ref t0, .ref k0]))] ++ (wX2 cy t0 t1 Xle Xch Xpo Xltr Xfi Xse Xth ++ (wX3 cy k0 k1 k2 Ksz Kcl Kke))) (w2 := wX1 cy hd sv nx SL_1) (w' := wX7 cy a0 t0 t1 k0 k1 k2 s0 s1 s2 s3 s4 s5 s6 s7 s8 s9 s10 s11 hd Xle Xch Xpo Xltr Xfi Xse Xth Ksz Kcl Kke Asz Anu Aba_4 Amo_5 Aco_6 Hsz_7 Hla Hce_8 Bsz Bla Bce Tma_9 Tlc_10 Ttc_11 day_12 lim low hig thr off cre_13 rcp pay sv nx SL_1) rfl rfl hP hK hD hN hS hA (q0 := 0) rfl rfl rfl rfl hl rfl (Nat.le_of_ble_eq_true rfl) dX7_pass_16 ⟨Nat.zero_le _, Nat.zero_le _⟩ (fun H locs hP hD hS => ?_)
  refine lv_lstore_n (lv' := [(2, .long r_3), (0, .ref a0), (1, .int p1)]) hx hb dX7_pass_19 rfl hl (by decide) rfl (fun ls hl => ?_)
  refine lv_lload_n hx hb dX7_pass_20 rfl (lv_at hl 0 rfl) ?_
  refine lv_lconst (v := 0) hx hb dX7_pass_21 (by decide) ?_
  refine W.lcmp hx hb dX7_pass_22 ?_
  refine lv_if_lt (tgt := 33) hx hb dX7_pass_23 (by decide) (fun c_15 => ?_) (fun c_15 => ?_)
  · have c_15 := (lg_cmp_lt _ _).mp c_15
    have hf := x_t c_15 hf
    refine lv_lload_n hx hb dX7_pass_33 rfl (lv_at hl 0 rfl) ?_
    have hf := Option.some.inj hf
    cases hf
    exact x_lret hx hb hr hlocks hK hP hD hS dX7_pass_34
  · have c_15 := fun q => c_15 ((lg_cmp_lt _ _).mpr q)
    have hf := x_f c_15 hf
    refine lv_aload_n hx hb dX7_pass_26 rfl (lv_at hl 1 rfl) ?_
    refine x_get hx hb (C := RX7) (T := TX7) (N := 4) (ci := 7) hts iX7 hown hK hP 0 rfl rfl 1 (by decide) wd0 rfl (.ref (hd 0)) rfl dX7_pass_27 ?_
    obtain ⟨sv_16, nx_17, h_18, hf⟩ := bd2_el hf
    refine x_callVv (As := []) (rest := []) ⟨hx, hb, hml, hown, hts⟩ (mX1_keep l D cy hd sv nx SL_1  sv_16 nx_17 h_18) (cwV 0 hts (gcV_X1_keep hbg wm_7_14) rfl rfl rfl kdX1_keep ⟨Nat.le_of_ble_eq_true rfl, Nat.le_of_ble_eq_true rfl⟩) (w1 := [(a0, .inr (7, [.ref s0, .ref (hd 0), .ref t0, .ref k0]))] ++ (wX2 cy t0 t1 Xle Xch Xpo Xltr Xfi Xse Xth ++ (wX3 cy k0 k1 k2 Ksz Kcl Kke ++ (wX5 cy s0 s1 s2 s3 s4 s5 s6 s7 s8 s9 s10 s11 Asz Anu Aba_4 Amo_5 Aco_6 Hsz_7 Hla Hce_8 Bsz Bla Bce Tma_9 Tlc_10 Ttc_11 day_12 lim low hig thr off cre_13 rcp pay)))) (w2 := []) (w' := wX7 cy a0 t0 t1 k0 k1 k2 s0 s1 s2 s3 s4 s5 s6 s7 s8 s9 s10 s11 hd Xle Xch Xpo Xltr Xfi Xse Xth Ksz Kcl Kke Asz Anu Aba_4 Amo_5 Aco_6 Hsz_7 Hla Hce_8 Bsz Bla Bce Tma_9 Tlc_10 Ttc_11 day_12 lim low hig thr off cre_13 rcp pay sv_16 nx_17 SL_1) (x_end rfl) (x_end rfl) hP hK hD hN hS hA (q0 := 0) rfl rfl rfl rfl hl rfl (Nat.le_of_ble_eq_true rfl) dX7_pass_30 ⟨Nat.zero_le _, Nat.zero_le _⟩ (fun H locs hP hD hS => ?_)
    refine lv_lload_n hx hb dX7_pass_33 rfl (lv_at hl 0 rfl) ?_
    have hf := Option.some.inj hf
    cases hf
    exact x_lret hx hb hr hlocks hK hP hD hS dX7_pass_34
theorem kdX7_reverse : yX7_reverse.cls = RX7 ∧ yX7_reverse.cls ≠ "java/lang/invoke/MethodHandle" ∧ yX7_reverse.cls ≠ "java/lang/invoke/VarHandle" ∧ (parseMethodDescriptor yX7_reverse.desc).map (fun d => d.parameters.length) = some 1 := by decide +kernel
def rmX7_reverse : Room := { frames := 5, cells := 0, slots := 0, locals := 125 }
set_option maxHeartbeats 4000000 in
set_option maxRecDepth 100000 in
theorem mX7_reverse (l : Launch) (D : va_G) (cy : Nat → ClassId) (a0 t0 t1 k0 k1 k2 s0 s1 s2 s3 s4 s5 s6 s7 s8 s9 s10 s11 : Nat) (hd : Nat → Nat) (Xle : Int32) (Xch : Nat → Int32) (Xpo : Int32) (Xltr : Int32) (Xfi : Int32) (Xse : Int32) (Xth : Int32) (Ksz : Int32) (Kcl : Nat → Int32) (Kke : Nat → Int32) (Asz : Int32) (Anu : Nat → Int32) (Aba : Nat → Int32) (Amo : Nat → Int32) (Aco : Nat → Int64) (Hsz : Int32) (Hla : Int32) (Hce : Nat → Int32) (Bsz : Int32) (Bla : Int32) (Bce : Nat → Int32) (Tma : Int32) (Tlc : Int32) (Ttc : Nat → Int32) (day : Int32) (lim : Int32) (low : Int32) (hig : Int32) (thr : Int32) (off : Int64) (cre : Int64) (rcp : Int64) (pay : Int64) (sv : Int32) (nx : Int32) (SL : Nat → XS) (p1 : Int32) (r : Int32) (Aba' : Nat → Int32) (Amo' : Nat → Int32) (Tma' : Int32) (Tlc' : Int32) (Ttc' : Nat → Int32) (rcp' : Int64) (pay' : Int64) (sv' : Int32) (nx' : Int32) (SL' : Nat → XS) (hf : fX7_reverse Asz Anu Aba Amo Aco Hsz Hla Hce Bsz Bla Bce Tma Tlc Ttc day lim low hig thr off cre rcp pay sv nx SL p1 = some (r, Aba', Amo', Tma', Tlc', Ttc', rcp', pay', sv', nx', SL')) : xMi l D cy yX7_reverse aX7_reverse rmX7_reverse ([.ref a0, .int p1] : List Value) (wX7 cy a0 t0 t1 k0 k1 k2 s0 s1 s2 s3 s4 s5 s6 s7 s8 s9 s10 s11 hd Xle Xch Xpo Xltr Xfi Xse Xth Ksz Kcl Kke Asz Anu Aba Amo Aco Hsz Hla Hce Bsz Bla Bce Tma Tlc Ttc day lim low hig thr off cre rcp pay sv nx SL) (wX7 cy a0 t0 t1 k0 k1 k2 s0 s1 s2 s3 s4 s5 s6 s7 s8 s9 s10 s11 hd Xle Xch Xpo Xltr Xfi Xse Xth Ksz Kcl Kke Asz Anu Aba' Amo' Aco Hsz Hla Hce Bsz Bla Bce Tma' Tlc' Ttc' day lim low hig thr off cre rcp' pay' sv' nx' SL') r := by
  intro hz
  refine x_start (Qc := xQi D cy _ r) (cc := cX7_reverse) (maxL := 2) (ret := (some .int)) (by decide) rfl (Nat.le_of_ble_eq_true rfl) (lv := [(0, .ref a0), (1, .int p1)]) rfl ?_
  intro p e s m below meth c ls A hx hb hr hml hown hts hlocks hK hP hD hS hA hN hl
  have hown : s.vm.findClass RX7 = some m.cls := hown
  have hbg : ∀ w ∈ wsL_law, w ∈ aX7_reverse := fun w h => List.mem_cons_of_mem _ h
  have wd0 : (Cond.fieldLink RX7 19 "ClientMoneyBook" "history" "LClientMoneyBook$History;").before ([.ref a0, .int p1] : List Value).toArray s = true := hts _ (List.mem_cons_of_mem _ wm_1_5)
  have wd1 : (Cond.fieldLink RX7 10 "ClientMoneyBook" "state" "LClientMoneyBook$State;").before ([.ref a0, .int p1] : List Value).toArray s = true := hts _ (List.mem_cons_of_mem _ wm_1_1)
  have iX7 : ∀ w ∈ u_ws RX7 TX7 4, w ∈ aX7_reverse := fun w h => List.mem_cons_of_mem _ (inlX7 w h)
  unfold fX7_reverse at hf
  refine lv_aload_n hx hb dX7_reverse_0 rfl (lv_at hl 0 rfl) ?_
  refine x_get hx hb (C := RX7) (T := TX7) (N := 4) (ci := 7) hts iX7 hown hK hP 0 rfl rfl 1 (by decide) wd0 rfl (.ref (hd 0)) rfl dX7_reverse_1 ?_
  refine lv_aload_n hx hb dX7_reverse_4 rfl (lv_at hl 0 rfl) ?_
  refine x_get hx hb (C := RX7) (T := TX7) (N := 4) (ci := 7) hts iX7 hown hK hP 0 rfl rfl 0 (by decide) wd1 rfl (.ref s0) rfl dX7_reverse_5 ?_
  obtain ⟨SL_1, h_2, hf⟩ := bd1_el hf
  refine x_callVv (As := [.ref s0]) (rest := []) ⟨hx, hb, hml, hown, hts⟩ (mX1_prepare l D cy s0 s1 s2 s3 s4 s5 s6 s7 s8 s9 s10 s11 hd Asz Anu Aba Amo Aco Hsz Hla Hce Bsz Bla Bce Tma Tlc Ttc day lim low hig thr off cre rcp pay sv nx SL  SL_1 h_2) (cwV 1 hts (gcV_X1_prepare hbg wm_5_3) rfl rfl rfl kdX1_prepare ⟨Nat.le_of_ble_eq_true rfl, Nat.le_of_ble_eq_true rfl⟩) (w1 := [(a0, .inr (7, [.ref s0, .ref (hd 0), .ref t0, .ref k0]))] ++ (wX2 cy t0 t1 Xle Xch Xpo Xltr Xfi Xse Xth ++ (wX3 cy k0 k1 k2 Ksz Kcl Kke))) (w2 := []) (w' := wX7 cy a0 t0 t1 k0 k1 k2 s0 s1 s2 s3 s4 s5 s6 s7 s8 s9 s10 s11 hd Xle Xch Xpo Xltr Xfi Xse Xth Ksz Kcl Kke Asz Anu Aba Amo Aco Hsz Hla Hce Bsz Bla Bce Tma Tlc Ttc day lim low hig thr off cre rcp pay sv nx SL_1) (x_end rfl) (x_end rfl) hP hK hD hN hS hA (q0 := 12) rfl rfl rfl rfl hl rfl (Nat.le_of_ble_eq_true rfl) dX7_reverse_8 ⟨Nat.zero_le _, Nat.zero_le _⟩ (fun H locs hP hD hS => ?_)
  refine lv_aload_n hx hb dX7_reverse_11 rfl (lv_at hl 0 rfl) ?_
  refine lv_aload_n hx hb dX7_reverse_12 rfl (lv_at hl 0 rfl) ?_
  refine x_get hx hb (C := RX7) (T := TX7) (N := 4) (ci := 7) hts iX7 hown hK hP 0 rfl rfl 0 (by decide) wd1 rfl (.ref s0) rfl dX7_reverse_13 ?_
  refine lv_iload_n hx hb dX7_reverse_16 rfl (lv_at hl 1 rfl) ?_
  obtain ⟨r_3, Aba_4, Amo_5, Tma_6, Tlc_7, Ttc_8, rcp_9, pay_10, h_11, hf⟩ := bd8_el hf
  refine x_callVi (As := [.int p1]) (rest := [.ref a0]) ⟨hx, hb, hml, hown, hts⟩ (mX5_reverseEntry l D cy s0 s1 s2 s3 s4 s5 s6 s7 s8 s9 s10 s11 Asz Anu Aba Amo Aco Hsz Hla Hce Bsz Bla Bce Tma Tlc Ttc day lim low hig thr off cre rcp pay p1 r_3 Aba_4 Amo_5 Tma_6 Tlc_7 Ttc_8 rcp_9 pay_10 h_11) (cwV 1 hts (gcV_X5_reverseEntry hbg wm_17_21) rfl rfl rfl kdX5_reverseEntry ⟨Nat.le_of_ble_eq_true rfl, Nat.le_of_ble_eq_true rfl⟩) (w1 := [(a0, .inr (7, [.ref s0, .ref (hd 0), .ref t0, .ref k0]))] ++ (wX2 cy t0 t1 Xle Xch Xpo Xltr Xfi Xse Xth ++ (wX3 cy k0 k1 k2 Ksz Kcl Kke))) (w2 := wX1 cy hd sv nx SL_1) (w' := wX7 cy a0 t0 t1 k0 k1 k2 s0 s1 s2 s3 s4 s5 s6 s7 s8 s9 s10 s11 hd Xle Xch Xpo Xltr Xfi Xse Xth Ksz Kcl Kke Asz Anu Aba_4 Amo_5 Aco Hsz Hla Hce Bsz Bla Bce Tma_6 Tlc_7 Ttc_8 day lim low hig thr off cre rcp_9 pay_10 sv nx SL_1) rfl rfl hP hK hD hN hS hA (q0 := 0) rfl rfl rfl rfl hl rfl (Nat.le_of_ble_eq_true rfl) dX7_reverse_17 ⟨Nat.zero_le _, Nat.zero_le _⟩ (fun H locs hP hD hS => ?_)
  obtain ⟨r_12, sv_13, nx_14, h_15, hf⟩ := bd3_el hf
  refine x_callVi (As := [.int r_3]) (rest := []) ⟨hx, hb, hml, hown, hts⟩ (mX7_keptUnlessError l D cy a0 t0 t1 k0 k1 k2 s0 s1 s2 s3 s4 s5 s6 s7 s8 s9 s10 s11 hd Xle Xch Xpo Xltr Xfi Xse Xth Ksz Kcl Kke Asz Anu Aba_4 Amo_5 Aco Hsz Hla Hce Bsz Bla Bce Tma_6 Tlc_7 Ttc_8 day lim low hig thr off cre rcp_9 pay_10 sv nx SL_1 r_3 r_12 sv_13 nx_14 h_15) (cwV 1 hts (gcV_X7_keptUnlessError hbg wm_7_10) rfl rfl rfl kdX7_keptUnlessError ⟨Nat.le_of_ble_eq_true rfl, Nat.le_of_ble_eq_true rfl⟩) (w1 := []) (w2 := []) (w' := wX7 cy a0 t0 t1 k0 k1 k2 s0 s1 s2 s3 s4 s5 s6 s7 s8 s9 s10 s11 hd Xle Xch Xpo Xltr Xfi Xse Xth Ksz Kcl Kke Asz Anu Aba_4 Amo_5 Aco Hsz Hla Hce Bsz Bla Bce Tma_6 Tlc_7 Ttc_8 day lim low hig thr off cre rcp_9 pay_10 sv_13 nx_14 SL_1) (List.append_nil _) (List.append_nil _) hP hK hD hN hS hA (q0 := 0) rfl rfl rfl rfl hl rfl (Nat.le_of_ble_eq_true rfl) dX7_reverse_20 ⟨Nat.zero_le _, Nat.zero_le _⟩ (fun H locs hP hD hS => ?_)
  have hf := Option.some.inj hf
  cases hf
  exact x_iret hx hb hr hlocks hK hP hD hS dX7_reverse_23
theorem kdX7_day : yX7_day.cls = RX7 ∧ yX7_day.cls ≠ "java/lang/invoke/MethodHandle" ∧ yX7_day.cls ≠ "java/lang/invoke/VarHandle" ∧ (parseMethodDescriptor yX7_day.desc).map (fun d => d.parameters.length) = some 0 := by decide +kernel
def rmX7_day : Room := { frames := 0, cells := 0, slots := 0, locals := 0 }
set_option maxHeartbeats 4000000 in
set_option maxRecDepth 100000 in
theorem mX7_day (l : Launch) (D : va_G) (cy : Nat → ClassId) (a0 t0 t1 k0 k1 k2 s0 s1 s2 s3 s4 s5 s6 s7 s8 s9 s10 s11 : Nat) (hd : Nat → Nat) (Xle : Int32) (Xch : Nat → Int32) (Xpo : Int32) (Xltr : Int32) (Xfi : Int32) (Xse : Int32) (Xth : Int32) (Ksz : Int32) (Kcl : Nat → Int32) (Kke : Nat → Int32) (Asz : Int32) (Anu : Nat → Int32) (Aba : Nat → Int32) (Amo : Nat → Int32) (Aco : Nat → Int64) (Hsz : Int32) (Hla : Int32) (Hce : Nat → Int32) (Bsz : Int32) (Bla : Int32) (Bce : Nat → Int32) (Tma : Int32) (Tlc : Int32) (Ttc : Nat → Int32) (day : Int32) (lim : Int32) (low : Int32) (hig : Int32) (thr : Int32) (off : Int64) (cre : Int64) (rcp : Int64) (pay : Int64) (sv : Int32) (nx : Int32) (SL : Nat → XS)  (r : Int32) (hf : fX7_day day = some r) : xMi l D cy yX7_day aX7_day rmX7_day ([.ref a0] : List Value) (wX7 cy a0 t0 t1 k0 k1 k2 s0 s1 s2 s3 s4 s5 s6 s7 s8 s9 s10 s11 hd Xle Xch Xpo Xltr Xfi Xse Xth Ksz Kcl Kke Asz Anu Aba Amo Aco Hsz Hla Hce Bsz Bla Bce Tma Tlc Ttc day lim low hig thr off cre rcp pay sv nx SL) (wX7 cy a0 t0 t1 k0 k1 k2 s0 s1 s2 s3 s4 s5 s6 s7 s8 s9 s10 s11 hd Xle Xch Xpo Xltr Xfi Xse Xth Ksz Kcl Kke Asz Anu Aba Amo Aco Hsz Hla Hce Bsz Bla Bce Tma Tlc Ttc day lim low hig thr off cre rcp pay sv nx SL) r := by
  intro hz
  refine x_start (Qc := xQi D cy _ r) (cc := cX7_day) (maxL := 1) (ret := (some .int)) (by decide) rfl (Nat.le_of_ble_eq_true rfl) (lv := [(0, .ref a0)]) rfl ?_
  intro p e s m below meth c ls A hx hb hr hml hown hts hlocks hK hP hD hS hA hN hl
  have hown : s.vm.findClass RX7 = some m.cls := hown
  have hbg : ∀ w ∈ wsL_law, w ∈ aX7_day := fun w h => List.mem_cons_of_mem _ h
  have wd0 : (Cond.fieldLink RX7 10 "ClientMoneyBook" "state" "LClientMoneyBook$State;").before ([.ref a0] : List Value).toArray s = true := hts _ (List.mem_cons_of_mem _ wm_1_1)
  have wd1 : (Cond.fieldLink RX7 90 "ClientMoneyBook$State" "day" "I").before ([.ref a0] : List Value).toArray s = true := hts _ (List.mem_cons_of_mem _ wm_22_0)
  have iX5 : ∀ w ∈ u_ws RX5 TX5 13, w ∈ aX7_day := fun w h => List.mem_cons_of_mem _ (inlX5 w h)
  have iX7 : ∀ w ∈ u_ws RX7 TX7 4, w ∈ aX7_day := fun w h => List.mem_cons_of_mem _ (inlX7 w h)
  unfold fX7_day at hf
  refine lv_aload_n hx hb dX7_day_0 rfl (lv_at hl 0 rfl) ?_
  refine x_get hx hb (C := RX7) (T := TX7) (N := 4) (ci := 7) hts iX7 hown hK hP 0 rfl rfl 0 (by decide) wd0 rfl (.ref s0) rfl dX7_day_1 ?_
  refine x_get hx hb (C := RX5) (T := TX5) (N := 13) (ci := 5) hts iX5 hown hK hP 6 rfl rfl 4 (by decide) wd1 rfl (.int day) rfl dX7_day_4 ?_
  have hf := Option.some.inj hf
  cases hf
  exact x_iret hx hb hr hlocks hK hP hD hS dX7_day_7
theorem kdX7_clients : yX7_clients.cls = RX7 ∧ yX7_clients.cls ≠ "java/lang/invoke/MethodHandle" ∧ yX7_clients.cls ≠ "java/lang/invoke/VarHandle" ∧ (parseMethodDescriptor yX7_clients.desc).map (fun d => d.parameters.length) = some 0 := by decide +kernel
def rmX7_clients : Room := { frames := 0, cells := 0, slots := 0, locals := 0 }
set_option maxHeartbeats 4000000 in
set_option maxRecDepth 100000 in
theorem mX7_clients (l : Launch) (D : va_G) (cy : Nat → ClassId) (a0 t0 t1 k0 k1 k2 s0 s1 s2 s3 s4 s5 s6 s7 s8 s9 s10 s11 : Nat) (hd : Nat → Nat) (Xle : Int32) (Xch : Nat → Int32) (Xpo : Int32) (Xltr : Int32) (Xfi : Int32) (Xse : Int32) (Xth : Int32) (Ksz : Int32) (Kcl : Nat → Int32) (Kke : Nat → Int32) (Asz : Int32) (Anu : Nat → Int32) (Aba : Nat → Int32) (Amo : Nat → Int32) (Aco : Nat → Int64) (Hsz : Int32) (Hla : Int32) (Hce : Nat → Int32) (Bsz : Int32) (Bla : Int32) (Bce : Nat → Int32) (Tma : Int32) (Tlc : Int32) (Ttc : Nat → Int32) (day : Int32) (lim : Int32) (low : Int32) (hig : Int32) (thr : Int32) (off : Int64) (cre : Int64) (rcp : Int64) (pay : Int64) (sv : Int32) (nx : Int32) (SL : Nat → XS)  (r : Int32) (hf : fX7_clients Asz = some r) : xMi l D cy yX7_clients aX7_clients rmX7_clients ([.ref a0] : List Value) (wX7 cy a0 t0 t1 k0 k1 k2 s0 s1 s2 s3 s4 s5 s6 s7 s8 s9 s10 s11 hd Xle Xch Xpo Xltr Xfi Xse Xth Ksz Kcl Kke Asz Anu Aba Amo Aco Hsz Hla Hce Bsz Bla Bce Tma Tlc Ttc day lim low hig thr off cre rcp pay sv nx SL) (wX7 cy a0 t0 t1 k0 k1 k2 s0 s1 s2 s3 s4 s5 s6 s7 s8 s9 s10 s11 hd Xle Xch Xpo Xltr Xfi Xse Xth Ksz Kcl Kke Asz Anu Aba Amo Aco Hsz Hla Hce Bsz Bla Bce Tma Tlc Ttc day lim low hig thr off cre rcp pay sv nx SL) r := by
  intro hz
  refine x_start (Qc := xQi D cy _ r) (cc := cX7_clients) (maxL := 1) (ret := (some .int)) (by decide) rfl (Nat.le_of_ble_eq_true rfl) (lv := [(0, .ref a0)]) rfl ?_
  intro p e s m below meth c ls A hx hb hr hml hown hts hlocks hK hP hD hS hA hN hl
  have hown : s.vm.findClass RX7 = some m.cls := hown
  have hbg : ∀ w ∈ wsL_law, w ∈ aX7_clients := fun w h => List.mem_cons_of_mem _ h
  have wd0 : (Cond.fieldLink RX7 10 "ClientMoneyBook" "state" "LClientMoneyBook$State;").before ([.ref a0] : List Value).toArray s = true := hts _ (List.mem_cons_of_mem _ wm_1_1)
  have wd1 : (Cond.fieldLink RX7 94 "ClientMoneyBook$State" "accounts" "LClientMoneyBook$Accounts;").before ([.ref a0] : List Value).toArray s = true := hts _ (List.mem_cons_of_mem _ wm_14_6)
  have wd2 : (Cond.fieldLink RX7 98 "ClientMoneyBook$Accounts" "size" "I").before ([.ref a0] : List Value).toArray s = true := hts _ (List.mem_cons_of_mem _ wm_20_10)
  have iX0 : ∀ w ∈ u_ws RX0 TX0 5, w ∈ aX7_clients := fun w h => List.mem_cons_of_mem _ (inlX0 w h)
  have iX5 : ∀ w ∈ u_ws RX5 TX5 13, w ∈ aX7_clients := fun w h => List.mem_cons_of_mem _ (inlX5 w h)
  have iX7 : ∀ w ∈ u_ws RX7 TX7 4, w ∈ aX7_clients := fun w h => List.mem_cons_of_mem _ (inlX7 w h)
  unfold fX7_clients at hf
  refine lv_aload_n hx hb dX7_clients_0 rfl (lv_at hl 0 rfl) ?_
  refine x_get hx hb (C := RX7) (T := TX7) (N := 4) (ci := 7) hts iX7 hown hK hP 0 rfl rfl 0 (by decide) wd0 rfl (.ref s0) rfl dX7_clients_1 ?_
  refine x_get hx hb (C := RX5) (T := TX5) (N := 13) (ci := 5) hts iX5 hown hK hP 6 rfl rfl 0 (by decide) wd1 rfl (.ref s1) rfl dX7_clients_4 ?_
  refine x_get hx hb (C := RX0) (T := TX0) (N := 5) (ci := 0) hts iX0 hown hK hP 7 rfl rfl 0 (by decide) wd2 rfl (.int Asz) rfl dX7_clients_7 ?_
  have hf := Option.some.inj hf
  cases hf
  exact x_iret hx hb hr hlocks hK hP hD hS dX7_clients_10
theorem kdX7_ranked : yX7_ranked.cls = RX7 ∧ yX7_ranked.cls ≠ "java/lang/invoke/MethodHandle" ∧ yX7_ranked.cls ≠ "java/lang/invoke/VarHandle" ∧ (parseMethodDescriptor yX7_ranked.desc).map (fun d => d.parameters.length) = some 2 := by decide +kernel
def rmX7_ranked : Room := { frames := 5, cells := 0, slots := 0, locals := 114 }
set_option maxHeartbeats 4000000 in
set_option maxRecDepth 100000 in
theorem mX7_ranked (l : Launch) (D : va_G) (cy : Nat → ClassId) (a0 t0 t1 k0 k1 k2 s0 s1 s2 s3 s4 s5 s6 s7 s8 s9 s10 s11 : Nat) (hd : Nat → Nat) (Xle : Int32) (Xch : Nat → Int32) (Xpo : Int32) (Xltr : Int32) (Xfi : Int32) (Xse : Int32) (Xth : Int32) (Ksz : Int32) (Kcl : Nat → Int32) (Kke : Nat → Int32) (Asz : Int32) (Anu : Nat → Int32) (Aba : Nat → Int32) (Amo : Nat → Int32) (Aco : Nat → Int64) (Hsz : Int32) (Hla : Int32) (Hce : Nat → Int32) (Bsz : Int32) (Bla : Int32) (Bce : Nat → Int32) (Tma : Int32) (Tlc : Int32) (Ttc : Nat → Int32) (day : Int32) (lim : Int32) (low : Int32) (hig : Int32) (thr : Int32) (off : Int64) (cre : Int64) (rcp : Int64) (pay : Int64) (sv : Int32) (nx : Int32) (SL : Nat → XS) (p1 : Int32) (p2 : Int32) (r : Int32) (Ksz' : Int32) (Kcl' : Nat → Int32) (Kke' : Nat → Int32) (hf : fX7_ranked Ksz Kcl Kke Asz Anu Aba Amo Hsz Hce p1 p2 = some (r, Ksz', Kcl', Kke')) : xMi l D cy yX7_ranked aX7_ranked rmX7_ranked ([.ref a0, .int p1, .int p2] : List Value) (wX7 cy a0 t0 t1 k0 k1 k2 s0 s1 s2 s3 s4 s5 s6 s7 s8 s9 s10 s11 hd Xle Xch Xpo Xltr Xfi Xse Xth Ksz Kcl Kke Asz Anu Aba Amo Aco Hsz Hla Hce Bsz Bla Bce Tma Tlc Ttc day lim low hig thr off cre rcp pay sv nx SL) (wX7 cy a0 t0 t1 k0 k1 k2 s0 s1 s2 s3 s4 s5 s6 s7 s8 s9 s10 s11 hd Xle Xch Xpo Xltr Xfi Xse Xth Ksz' Kcl' Kke' Asz Anu Aba Amo Aco Hsz Hla Hce Bsz Bla Bce Tma Tlc Ttc day lim low hig thr off cre rcp pay sv nx SL) r := by
  intro hz
  refine x_start (Qc := xQi D cy _ r) (cc := cX7_ranked) (maxL := 3) (ret := (some .int)) (by decide) rfl (Nat.le_of_ble_eq_true rfl) (lv := [(0, .ref a0), (1, .int p1), (2, .int p2)]) rfl ?_
  intro p e s m below meth c ls A hx hb hr hml hown hts hlocks hK hP hD hS hA hN hl
  have hown : s.vm.findClass RX7 = some m.cls := hown
  have hbg : ∀ w ∈ wsL_law, w ∈ aX7_ranked := fun w h => List.mem_cons_of_mem _ h
  have wd0 : (Cond.fieldLink RX7 10 "ClientMoneyBook" "state" "LClientMoneyBook$State;").before ([.ref a0, .int p1, .int p2] : List Value).toArray s = true := hts _ (List.mem_cons_of_mem _ wm_1_1)
  have wd1 : (Cond.fieldLink RX7 94 "ClientMoneyBook$State" "accounts" "LClientMoneyBook$Accounts;").before ([.ref a0, .int p1, .int p2] : List Value).toArray s = true := hts _ (List.mem_cons_of_mem _ wm_14_6)
  have wd2 : (Cond.fieldLink RX7 98 "ClientMoneyBook$Accounts" "size" "I").before ([.ref a0, .int p1, .int p2] : List Value).toArray s = true := hts _ (List.mem_cons_of_mem _ wm_20_10)
  have wd3 : (Cond.fieldLink RX7 33 "ClientMoneyBook" "ranking" "LClientMoneyBook$Ranking;").before ([.ref a0, .int p1, .int p2] : List Value).toArray s = true := hts _ (List.mem_cons_of_mem _ wm_1_13)
  have iX0 : ∀ w ∈ u_ws RX0 TX0 5, w ∈ aX7_ranked := fun w h => List.mem_cons_of_mem _ (inlX0 w h)
  have iX5 : ∀ w ∈ u_ws RX5 TX5 13, w ∈ aX7_ranked := fun w h => List.mem_cons_of_mem _ (inlX5 w h)
  have iX7 : ∀ w ∈ u_ws RX7 TX7 4, w ∈ aX7_ranked := fun w h => List.mem_cons_of_mem _ (inlX7 w h)
  unfold fX7_ranked at hf
  refine lv_iload_n hx hb dX7_ranked_0 rfl (lv_at hl 1 rfl) ?_
  refine lv_if_lt (tgt := 9) hx hb dX7_ranked_1 (by decide) (fun c_1 => ?_) (fun c_1 => ?_)
  · have hf := x_t c_1 hf
    refine lv_bipush (v := (-2)) hx hb dX7_ranked_9 (by decide) ?_
    have hf := Option.some.inj hf
    cases hf
    exact x_iret hx hb hr hlocks hK hP hD hS dX7_ranked_11
  · have hf := x_f c_1 hf
    refine lv_iload_n hx hb dX7_ranked_4 rfl (lv_at hl 1 rfl) ?_
    refine lv_iconst (v := 3) hx hb dX7_ranked_5 (by decide) ?_
    refine lv_icmp_le (tgt := 12) hx hb dX7_ranked_6 (by decide) (fun c_2 => ?_) (fun c_2 => ?_)
    · have hf := x_t c_2 hf
      refine lv_iload_n hx hb dX7_ranked_12 rfl (lv_at hl 2 rfl) ?_
      refine lv_if_lt (tgt := 30) hx hb dX7_ranked_13 (by decide) (fun c_3 => ?_) (fun c_3 => ?_)
      · have hf := x_t c_3 hf
        refine lv_iconst (v := (-1)) hx hb dX7_ranked_30 (by decide) ?_
        have hf := Option.some.inj hf
        cases hf
        exact x_iret hx hb hr hlocks hK hP hD hS dX7_ranked_31
      · have hf := x_f c_3 hf
        refine lv_iload_n hx hb dX7_ranked_16 rfl (lv_at hl 2 rfl) ?_
        refine lv_aload_n hx hb dX7_ranked_17 rfl (lv_at hl 0 rfl) ?_
        refine x_get hx hb (C := RX7) (T := TX7) (N := 4) (ci := 7) hts iX7 hown hK hP 0 rfl rfl 0 (by decide) wd0 rfl (.ref s0) rfl dX7_ranked_18 ?_
        refine x_get hx hb (C := RX5) (T := TX5) (N := 13) (ci := 5) hts iX5 hown hK hP 6 rfl rfl 0 (by decide) wd1 rfl (.ref s1) rfl dX7_ranked_21 ?_
        refine x_get hx hb (C := RX0) (T := TX0) (N := 5) (ci := 0) hts iX0 hown hK hP 7 rfl rfl 0 (by decide) wd2 rfl (.int Asz) rfl dX7_ranked_24 ?_
        refine lv_icmp_lt (tgt := 32) hx hb dX7_ranked_27 (by decide) (fun c_4 => ?_) (fun c_4 => ?_)
        · have hf := x_t c_4 hf
          refine lv_aload_n hx hb dX7_ranked_32 rfl (lv_at hl 0 rfl) ?_
          refine x_get hx hb (C := RX7) (T := TX7) (N := 4) (ci := 7) hts iX7 hown hK hP 0 rfl rfl 3 (by decide) wd3 rfl (.ref k0) rfl dX7_ranked_33 ?_
          refine lv_aload_n hx hb dX7_ranked_36 rfl (lv_at hl 0 rfl) ?_
          refine x_get hx hb (C := RX7) (T := TX7) (N := 4) (ci := 7) hts iX7 hown hK hP 0 rfl rfl 0 (by decide) wd0 rfl (.ref s0) rfl dX7_ranked_37 ?_
          refine lv_iload_n hx hb dX7_ranked_40 rfl (lv_at hl 1 rfl) ?_
          obtain ⟨Ksz_5, Kcl_6, Kke_7, h_8, hf⟩ := bd3_el hf
          refine x_callVv (As := [.ref s0, .int p1]) (rest := []) ⟨hx, hb, hml, hown, hts⟩ (mX3_sort l D cy k0 k1 k2 s0 s1 s2 s3 s4 s5 s6 s7 s8 s9 s10 s11 Ksz Kcl Kke Asz Anu Aba Amo Aco Hsz Hla Hce Bsz Bla Bce Tma Tlc Ttc day lim low hig thr off cre rcp pay p1 Ksz_5 Kcl_6 Kke_7 h_8) (cwV 2 hts (gcV_X3_sort hbg wm_20_11) rfl rfl rfl kdX3_sort ⟨Nat.le_of_ble_eq_true rfl, Nat.le_of_ble_eq_true rfl⟩) (w1 := [(a0, .inr (7, [.ref s0, .ref (hd 0), .ref t0, .ref k0]))] ++ (wX2 cy t0 t1 Xle Xch Xpo Xltr Xfi Xse Xth)) (w2 := wX1 cy hd sv nx SL) (w' := wX7 cy a0 t0 t1 k0 k1 k2 s0 s1 s2 s3 s4 s5 s6 s7 s8 s9 s10 s11 hd Xle Xch Xpo Xltr Xfi Xse Xth Ksz_5 Kcl_6 Kke_7 Asz Anu Aba Amo Aco Hsz Hla Hce Bsz Bla Bce Tma Tlc Ttc day lim low hig thr off cre rcp pay sv nx SL) rfl rfl hP hK hD hN hS hA (q0 := 0) rfl rfl rfl rfl hl rfl (Nat.le_of_ble_eq_true rfl) dX7_ranked_41 ⟨Nat.zero_le _, Nat.zero_le _⟩ (fun H locs hP hD hS => ?_)
          refine lv_aload_n hx hb dX7_ranked_44 rfl (lv_at hl 0 rfl) ?_
          refine x_get hx hb (C := RX7) (T := TX7) (N := 4) (ci := 7) hts iX7 hown hK hP 0 rfl rfl 3 (by decide) wd3 rfl (.ref k0) rfl dX7_ranked_45 ?_
          refine lv_iload_n hx hb dX7_ranked_48 rfl (lv_at hl 2 rfl) ?_
          obtain ⟨r_9, h_10, hf⟩ := bd1_el hf
          refine x_callVi (As := [.int p2]) (rest := []) ⟨hx, hb, hml, hown, hts⟩ (mX3_clientAt l D cy k0 k1 k2 Ksz_5 Kcl_6 Kke_7 p2 r_9 h_10) (cwV 1 hts (gcV_X3_clientAt hbg wm_21_1) rfl rfl rfl kdX3_clientAt ⟨Nat.le_of_ble_eq_true rfl, Nat.le_of_ble_eq_true rfl⟩) (w1 := [(a0, .inr (7, [.ref s0, .ref (hd 0), .ref t0, .ref k0]))] ++ (wX2 cy t0 t1 Xle Xch Xpo Xltr Xfi Xse Xth)) (w2 := wX5 cy s0 s1 s2 s3 s4 s5 s6 s7 s8 s9 s10 s11 Asz Anu Aba Amo Aco Hsz Hla Hce Bsz Bla Bce Tma Tlc Ttc day lim low hig thr off cre rcp pay ++ (wX1 cy hd sv nx SL)) (w' := wX7 cy a0 t0 t1 k0 k1 k2 s0 s1 s2 s3 s4 s5 s6 s7 s8 s9 s10 s11 hd Xle Xch Xpo Xltr Xfi Xse Xth Ksz_5 Kcl_6 Kke_7 Asz Anu Aba Amo Aco Hsz Hla Hce Bsz Bla Bce Tma Tlc Ttc day lim low hig thr off cre rcp pay sv nx SL) rfl rfl hP hK hD hN hS hA (q0 := 0) rfl rfl rfl rfl hl rfl (Nat.le_of_ble_eq_true rfl) dX7_ranked_49 ⟨Nat.zero_le _, Nat.zero_le _⟩ (fun H locs hP hD hS => ?_)
          have hf := Option.some.inj hf
          cases hf
          exact x_iret hx hb hr hlocks hK hP hD hS dX7_ranked_52
        · have hf := x_f c_4 hf
          refine lv_iconst (v := (-1)) hx hb dX7_ranked_30 (by decide) ?_
          have hf := Option.some.inj hf
          cases hf
          exact x_iret hx hb hr hlocks hK hP hD hS dX7_ranked_31
    · have hf := x_f c_2 hf
      refine lv_bipush (v := (-2)) hx hb dX7_ranked_9 (by decide) ?_
      have hf := Option.some.inj hf
      cases hf
      exact x_iret hx hb hr hlocks hK hP hD hS dX7_ranked_11
theorem kdX7_of : yX7_of.cls = RX7 ∧ yX7_of.cls ≠ "java/lang/invoke/MethodHandle" ∧ yX7_of.cls ≠ "java/lang/invoke/VarHandle" ∧ (parseMethodDescriptor yX7_of.desc).map (fun d => d.parameters.length) = some 2 := by decide +kernel
def rmX7_of : Room := { frames := 4, cells := 0, slots := 0, locals := 90 }
set_option maxHeartbeats 4000000 in
set_option maxRecDepth 100000 in
theorem mX7_of (l : Launch) (D : va_G) (cy : Nat → ClassId) (a0 t0 t1 k0 k1 k2 s0 s1 s2 s3 s4 s5 s6 s7 s8 s9 s10 s11 : Nat) (hd : Nat → Nat) (Xle : Int32) (Xch : Nat → Int32) (Xpo : Int32) (Xltr : Int32) (Xfi : Int32) (Xse : Int32) (Xth : Int32) (Ksz : Int32) (Kcl : Nat → Int32) (Kke : Nat → Int32) (Asz : Int32) (Anu : Nat → Int32) (Aba : Nat → Int32) (Amo : Nat → Int32) (Aco : Nat → Int64) (Hsz : Int32) (Hla : Int32) (Hce : Nat → Int32) (Bsz : Int32) (Bla : Int32) (Bce : Nat → Int32) (Tma : Int32) (Tlc : Int32) (Ttc : Nat → Int32) (day : Int32) (lim : Int32) (low : Int32) (hig : Int32) (thr : Int32) (off : Int64) (cre : Int64) (rcp : Int64) (pay : Int64) (sv : Int32) (nx : Int32) (SL : Nat → XS) (p1 : Int32) (p2 : Int32) (r : Int32) (hf : fX7_of Asz Anu Aba Amo Aco Hsz Hce Bsz Bce p1 p2 = some r) : xMi l D cy yX7_of aX7_of rmX7_of ([.ref a0, .int p1, .int p2] : List Value) (wX7 cy a0 t0 t1 k0 k1 k2 s0 s1 s2 s3 s4 s5 s6 s7 s8 s9 s10 s11 hd Xle Xch Xpo Xltr Xfi Xse Xth Ksz Kcl Kke Asz Anu Aba Amo Aco Hsz Hla Hce Bsz Bla Bce Tma Tlc Ttc day lim low hig thr off cre rcp pay sv nx SL) (wX7 cy a0 t0 t1 k0 k1 k2 s0 s1 s2 s3 s4 s5 s6 s7 s8 s9 s10 s11 hd Xle Xch Xpo Xltr Xfi Xse Xth Ksz Kcl Kke Asz Anu Aba Amo Aco Hsz Hla Hce Bsz Bla Bce Tma Tlc Ttc day lim low hig thr off cre rcp pay sv nx SL) r := by
  intro hz
  refine x_start (Qc := xQi D cy _ r) (cc := cX7_of) (maxL := 4) (ret := (some .int)) (by decide) rfl (Nat.le_of_ble_eq_true rfl) (lv := [(0, .ref a0), (1, .int p1), (2, .int p2)]) rfl ?_
  intro p e s m below meth c ls A hx hb hr hml hown hts hlocks hK hP hD hS hA hN hl
  have hown : s.vm.findClass RX7 = some m.cls := hown
  have hbg : ∀ w ∈ wsL_law, w ∈ aX7_of := fun w h => List.mem_cons_of_mem _ h
  have wd0 : (Cond.fieldLink RX7 10 "ClientMoneyBook" "state" "LClientMoneyBook$State;").before ([.ref a0, .int p1, .int p2] : List Value).toArray s = true := hts _ (List.mem_cons_of_mem _ wm_1_1)
  have wd1 : (Cond.fieldLink RX7 94 "ClientMoneyBook$State" "accounts" "LClientMoneyBook$Accounts;").before ([.ref a0, .int p1, .int p2] : List Value).toArray s = true := hts _ (List.mem_cons_of_mem _ wm_14_6)
  have iX5 : ∀ w ∈ u_ws RX5 TX5 13, w ∈ aX7_of := fun w h => List.mem_cons_of_mem _ (inlX5 w h)
  have iX7 : ∀ w ∈ u_ws RX7 TX7 4, w ∈ aX7_of := fun w h => List.mem_cons_of_mem _ (inlX7 w h)
  unfold fX7_of at hf
  refine lv_aload_n hx hb dX7_of_0 rfl (lv_at hl 0 rfl) ?_
  refine x_get hx hb (C := RX7) (T := TX7) (N := 4) (ci := 7) hts iX7 hown hK hP 0 rfl rfl 0 (by decide) wd0 rfl (.ref s0) rfl dX7_of_1 ?_
  refine x_get hx hb (C := RX5) (T := TX5) (N := 13) (ci := 5) hts iX5 hown hK hP 6 rfl rfl 0 (by decide) wd1 rfl (.ref s1) rfl dX7_of_4 ?_
  refine lv_iload_n hx hb dX7_of_7 rfl (lv_at hl 1 rfl) ?_
  obtain ⟨r_1, h_2, hf⟩ := bd1_el hf
  refine x_callVi (As := [.int p1]) (rest := []) ⟨hx, hb, hml, hown, hts⟩ (mX0_find l D cy s1 s2 s3 s4 s5 Asz Anu Aba Amo Aco p1 r_1 h_2) (cwV 1 hts (gcV_X0_find hbg wm_14_7) rfl rfl rfl kdX0_find ⟨Nat.le_of_ble_eq_true rfl, Nat.le_of_ble_eq_true rfl⟩) (w1 := [(a0, .inr (7, [.ref s0, .ref (hd 0), .ref t0, .ref k0]))] ++ (wX2 cy t0 t1 Xle Xch Xpo Xltr Xfi Xse Xth ++ (wX3 cy k0 k1 k2 Ksz Kcl Kke ++ ([(s0, .inr (5, [.ref s1, .ref s6, .ref s8, .ref s10, .int day, .int lim, .int low, .int hig, .int thr, .long off, .long cre, .long rcp, .long pay]))])))) (w2 := wX4 cy s6 s7 Hsz Hla Hce ++ (wX4 cy s8 s9 Bsz Bla Bce ++ (wX6 cy s10 s11 Tma Tlc Ttc ++ (wX1 cy hd sv nx SL)))) (w' := wX7 cy a0 t0 t1 k0 k1 k2 s0 s1 s2 s3 s4 s5 s6 s7 s8 s9 s10 s11 hd Xle Xch Xpo Xltr Xfi Xse Xth Ksz Kcl Kke Asz Anu Aba Amo Aco Hsz Hla Hce Bsz Bla Bce Tma Tlc Ttc day lim low hig thr off cre rcp pay sv nx SL) rfl rfl hP hK hD hN hS hA (q0 := 0) rfl rfl rfl rfl hl rfl (Nat.le_of_ble_eq_true rfl) dX7_of_8 ⟨Nat.zero_le _, Nat.zero_le _⟩ (fun H locs hP hD hS => ?_)
  refine lv_istore_n (lv' := [(3, .int r_1), (0, .ref a0), (1, .int p1), (2, .int p2)]) hx hb dX7_of_11 rfl hl (by decide) rfl (fun ls hl => ?_)
  refine lv_iload_n hx hb dX7_of_12 rfl (lv_at hl 0 rfl) ?_
  refine lv_if_ge (tgt := 18) hx hb dX7_of_13 (by decide) (fun c_3 => ?_) (fun c_3 => ?_)
  · have hf := x_t c_3 hf
    refine lv_aload_n hx hb dX7_of_18 rfl (lv_at hl 1 rfl) ?_
    refine x_get hx hb (C := RX7) (T := TX7) (N := 4) (ci := 7) hts iX7 hown hK hP 0 rfl rfl 0 (by decide) wd0 rfl (.ref s0) rfl dX7_of_19 ?_
    refine lv_iload_n hx hb dX7_of_22 rfl (lv_at hl 0 rfl) ?_
    refine lv_iload_n hx hb dX7_of_23 rfl (lv_at hl 3 rfl) ?_
    obtain ⟨r_4, h_5, hf⟩ := bd1_el hf
    refine x_callVi (As := [.int r_1, .int p2]) (rest := []) ⟨hx, hb, hml, hown, hts⟩ (mX5_aboutClient l D cy s0 s1 s2 s3 s4 s5 s6 s7 s8 s9 s10 s11 Asz Anu Aba Amo Aco Hsz Hla Hce Bsz Bla Bce Tma Tlc Ttc day lim low hig thr off cre rcp pay r_1 p2 r_4 h_5) (cwV 2 hts (gcV_X5_aboutClient hbg wm_19_21) rfl rfl rfl kdX5_aboutClient ⟨Nat.le_of_ble_eq_true rfl, Nat.le_of_ble_eq_true rfl⟩) (w1 := [(a0, .inr (7, [.ref s0, .ref (hd 0), .ref t0, .ref k0]))] ++ (wX2 cy t0 t1 Xle Xch Xpo Xltr Xfi Xse Xth ++ (wX3 cy k0 k1 k2 Ksz Kcl Kke))) (w2 := wX1 cy hd sv nx SL) (w' := wX7 cy a0 t0 t1 k0 k1 k2 s0 s1 s2 s3 s4 s5 s6 s7 s8 s9 s10 s11 hd Xle Xch Xpo Xltr Xfi Xse Xth Ksz Kcl Kke Asz Anu Aba Amo Aco Hsz Hla Hce Bsz Bla Bce Tma Tlc Ttc day lim low hig thr off cre rcp pay sv nx SL) rfl rfl hP hK hD hN hS hA (q0 := 0) rfl rfl rfl rfl hl rfl (Nat.le_of_ble_eq_true rfl) dX7_of_24 ⟨Nat.zero_le _, Nat.zero_le _⟩ (fun H locs hP hD hS => ?_)
    have hf := Option.some.inj hf
    cases hf
    exact x_iret hx hb hr hlocks hK hP hD hS dX7_of_27
  · have hf := x_f c_3 hf
    refine lv_iconst (v := (-1)) hx hb dX7_of_16 (by decide) ?_
    have hf := Option.some.inj hf
    cases hf
    exact x_iret hx hb hr hlocks hK hP hD hS dX7_of_17
