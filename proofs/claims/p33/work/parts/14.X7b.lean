theorem kdX7_aboutRow : yX7_aboutRow.cls ≠ "java/lang/invoke/MethodHandle" ∧ yX7_aboutRow.cls ≠ "java/lang/invoke/VarHandle" ∧ (parseMethodDescriptor yX7_aboutRow.desc).map (fun d => d.parameters.length) = some 3 := by decide +kernel
def rmX7_aboutRow : Room := { frames := 2, cells := 0, slots := 0, locals := 44 }
set_option maxHeartbeats 4000000 in
set_option maxRecDepth 100000 in
theorem mX7_aboutRow (l : Launch) (D : va_G) (cy : Nat → ClassId) (a0 a1 : Nat) (sz : Int32) (la : Int32) (ce : Nat → Int32) (p2 : Int32) (p3 : Int32) (r : Int32) (hf : fX7_aboutRow sz ce p2 p3 = some r) : xMi l D cy yX7_aboutRow aX7_aboutRow rmX7_aboutRow ([.ref a0, .int p2, .int p3] : List Value) (wX4 cy a0 a1 sz la ce) (wX4 cy a0 a1 sz la ce) r := by
  intro hz
  refine x_start (Qc := xQi D cy _ r) (cc := cX7_aboutRow) (maxL := 4) (ret := (some .int)) (by decide) rfl (Nat.le_of_ble_eq_true rfl) (lv := [(0, .ref a0), (1, .int p2), (2, .int p3)]) rfl ?_
  intro p e s m below meth c ls A hx hb hr hml hown hts hlocks hK hP hD hS hA hN hl
  have hown : s.vm.findClass RX7 = some m.cls := hown
  have hbg : ∀ w ∈ wsL_law, w ∈ aX7_aboutRow := fun w h => List.mem_cons_of_mem _ h
  unfold fX7_aboutRow at hf
  refine lv_aload_n hx hb dX7_aboutRow_0 rfl (lv_at hl 0 rfl) ?_
  refine lv_iload_n hx hb dX7_aboutRow_1 rfl (lv_at hl 1 rfl) ?_
  obtain ⟨r_1, h_2, hf⟩ := bd1_el hf
  refine x_callVi (As := [.int p2]) (rest := []) ⟨hx, hb, hml, hown, hts⟩ (mX4_find l D cy a0 a1 sz la ce p2 r_1 h_2) (cwV 1 hts (gcV_X4_find hbg wm_21_13) rfl rfl rfl kdX4_find ⟨Nat.le_of_ble_eq_true rfl, Nat.le_of_ble_eq_true rfl⟩) (w1 := []) (w2 := []) (w' := wX4 cy a0 a1 sz la ce) (List.append_nil _) (List.append_nil _) hP hK hD hN hS hA (q0 := 0) rfl rfl rfl rfl hl rfl (Nat.le_of_ble_eq_true rfl) dX7_aboutRow_2 ⟨Nat.zero_le _, Nat.zero_le _⟩ (fun H locs hP hD hS => ?_)
  refine lv_istore_n (lv' := [(3, .int r_1), (0, .ref a0), (1, .int p2), (2, .int p3)]) hx hb dX7_aboutRow_5 rfl hl (by decide) rfl (fun ls hl => ?_)
  refine lv_iload_n hx hb dX7_aboutRow_6 rfl (lv_at hl 0 rfl) ?_
  refine lv_if_ge (tgt := 12) hx hb dX7_aboutRow_7 (by decide) (fun c_3 => ?_) (fun c_3 => ?_)
  · have hf := x_t c_3 hf
    refine lv_iload_n hx hb dX7_aboutRow_12 rfl (lv_at hl 3 rfl) ?_
    refine lv_if_lt (tgt := 21) hx hb dX7_aboutRow_13 (by decide) (fun c_4 => ?_) (fun c_4 => ?_)
    · have hf := x_t c_4 hf
      refine lv_bipush (v := (-2)) hx hb dX7_aboutRow_21 (by decide) ?_
      have hf := Option.some.inj hf
      cases hf
      exact x_iret hx hb hr hlocks hK hP hD hS dX7_aboutRow_23
    · have hf := x_f c_4 hf
      refine lv_iload_n hx hb dX7_aboutRow_16 rfl (lv_at hl 3 rfl) ?_
      refine lv_iconst (v := 2) hx hb dX7_aboutRow_17 (by decide) ?_
      refine lv_icmp_le (tgt := 24) hx hb dX7_aboutRow_18 (by decide) (fun c_5 => ?_) (fun c_5 => ?_)
      · have hf := x_t c_5 hf
        refine lv_aload_n hx hb dX7_aboutRow_24 rfl (lv_at hl 1 rfl) ?_
        refine lv_iload_n hx hb dX7_aboutRow_25 rfl (lv_at hl 0 rfl) ?_
        refine lv_iconst (v := 1) hx hb dX7_aboutRow_26 (by decide) ?_
        refine lv_iload_n hx hb dX7_aboutRow_27 rfl (lv_at hl 3 rfl) ?_
        refine lv_iadd hx hb dX7_aboutRow_28 ?_
        obtain ⟨r_6, h_7, hf⟩ := bd1_el hf
        refine x_callVi (As := [.int r_1, .int (1 + p3)]) (rest := []) ⟨hx, hb, hml, hown, hts⟩ (mX4_get l D cy a0 a1 sz la ce r_1 (1 + p3) r_6 h_7) (cwV 2 hts (gcV_X4_get hbg wm_21_14) rfl rfl rfl kdX4_get ⟨Nat.le_of_ble_eq_true rfl, Nat.le_of_ble_eq_true rfl⟩) (w1 := []) (w2 := []) (w' := wX4 cy a0 a1 sz la ce) (List.append_nil _) (List.append_nil _) hP hK hD hN hS hA (q0 := 0) rfl rfl rfl rfl hl rfl (Nat.le_of_ble_eq_true rfl) dX7_aboutRow_29 ⟨Nat.zero_le _, Nat.zero_le _⟩ (fun H locs hP hD hS => ?_)
        have hf := Option.some.inj hf
        cases hf
        exact x_iret hx hb hr hlocks hK hP hD hS dX7_aboutRow_32
      · have hf := x_f c_5 hf
        refine lv_bipush (v := (-2)) hx hb dX7_aboutRow_21 (by decide) ?_
        have hf := Option.some.inj hf
        cases hf
        exact x_iret hx hb hr hlocks hK hP hD hS dX7_aboutRow_23
  · have hf := x_f c_3 hf
    refine lv_iconst (v := (-1)) hx hb dX7_aboutRow_10 (by decide) ?_
    have hf := Option.some.inj hf
    cases hf
    exact x_iret hx hb hr hlocks hK hP hD hS dX7_aboutRow_11
theorem kdX7_holdOf : yX7_holdOf.cls = RX7 ∧ yX7_holdOf.cls ≠ "java/lang/invoke/MethodHandle" ∧ yX7_holdOf.cls ≠ "java/lang/invoke/VarHandle" ∧ (parseMethodDescriptor yX7_holdOf.desc).map (fun d => d.parameters.length) = some 2 := by decide +kernel
def rmX7_holdOf : Room := { frames := 3, cells := 0, slots := 0, locals := 67 }
set_option maxHeartbeats 4000000 in
set_option maxRecDepth 100000 in
theorem mX7_holdOf (l : Launch) (D : va_G) (cy : Nat → ClassId) (a0 t0 t1 k0 k1 k2 s0 s1 s2 s3 s4 s5 s6 s7 s8 s9 s10 s11 : Nat) (hd : Nat → Nat) (Xle : Int32) (Xch : Nat → Int32) (Xpo : Int32) (Xltr : Int32) (Xfi : Int32) (Xse : Int32) (Xth : Int32) (Ksz : Int32) (Kcl : Nat → Int32) (Kke : Nat → Int32) (Asz : Int32) (Anu : Nat → Int32) (Aba : Nat → Int32) (Amo : Nat → Int32) (Aco : Nat → Int64) (Hsz : Int32) (Hla : Int32) (Hce : Nat → Int32) (Bsz : Int32) (Bla : Int32) (Bce : Nat → Int32) (Tma : Int32) (Tlc : Int32) (Ttc : Nat → Int32) (day : Int32) (lim : Int32) (low : Int32) (hig : Int32) (thr : Int32) (off : Int64) (cre : Int64) (rcp : Int64) (pay : Int64) (sv : Int32) (nx : Int32) (SL : Nat → XS) (p1 : Int32) (p2 : Int32) (r : Int32) (hf : fX7_holdOf Hsz Hce p1 p2 = some r) : xMi l D cy yX7_holdOf aX7_holdOf rmX7_holdOf ([.ref a0, .int p1, .int p2] : List Value) (wX7 cy a0 t0 t1 k0 k1 k2 s0 s1 s2 s3 s4 s5 s6 s7 s8 s9 s10 s11 hd Xle Xch Xpo Xltr Xfi Xse Xth Ksz Kcl Kke Asz Anu Aba Amo Aco Hsz Hla Hce Bsz Bla Bce Tma Tlc Ttc day lim low hig thr off cre rcp pay sv nx SL) (wX7 cy a0 t0 t1 k0 k1 k2 s0 s1 s2 s3 s4 s5 s6 s7 s8 s9 s10 s11 hd Xle Xch Xpo Xltr Xfi Xse Xth Ksz Kcl Kke Asz Anu Aba Amo Aco Hsz Hla Hce Bsz Bla Bce Tma Tlc Ttc day lim low hig thr off cre rcp pay sv nx SL) r := by
  intro hz
  refine x_start (Qc := xQi D cy _ r) (cc := cX7_holdOf) (maxL := 3) (ret := (some .int)) (by decide) rfl (Nat.le_of_ble_eq_true rfl) (lv := [(0, .ref a0), (1, .int p1), (2, .int p2)]) rfl ?_
  intro p e s m below meth c ls A hx hb hr hml hown hts hlocks hK hP hD hS hA hN hl
  have hown : s.vm.findClass RX7 = some m.cls := hown
  have hbg : ∀ w ∈ wsL_law, w ∈ aX7_holdOf := fun w h => List.mem_cons_of_mem _ h
  have wd0 : (Cond.fieldLink RX7 10 "ClientMoneyBook" "state" "LClientMoneyBook$State;").before ([.ref a0, .int p1, .int p2] : List Value).toArray s = true := hts _ (List.mem_cons_of_mem _ wm_1_1)
  have wd1 : (Cond.fieldLink RX7 116 "ClientMoneyBook$State" "holds" "LClientMoneyBook$Rows;").before ([.ref a0, .int p1, .int p2] : List Value).toArray s = true := hts _ (List.mem_cons_of_mem _ wm_21_9)
  have iX5 : ∀ w ∈ u_ws RX5 TX5 13, w ∈ aX7_holdOf := fun w h => List.mem_cons_of_mem _ (inlX5 w h)
  have iX7 : ∀ w ∈ u_ws RX7 TX7 4, w ∈ aX7_holdOf := fun w h => List.mem_cons_of_mem _ (inlX7 w h)
  unfold fX7_holdOf at hf
  refine lv_aload_n hx hb dX7_holdOf_0 rfl (lv_at hl 0 rfl) ?_
  refine x_get hx hb (C := RX7) (T := TX7) (N := 4) (ci := 7) hts iX7 hown hK hP 0 rfl rfl 0 (by decide) wd0 rfl (.ref s0) rfl dX7_holdOf_1 ?_
  refine x_get hx hb (C := RX5) (T := TX5) (N := 13) (ci := 5) hts iX5 hown hK hP 6 rfl rfl 1 (by decide) wd1 rfl (.ref s6) rfl dX7_holdOf_4 ?_
  refine lv_iload_n hx hb dX7_holdOf_7 rfl (lv_at hl 1 rfl) ?_
  refine lv_iload_n hx hb dX7_holdOf_8 rfl (lv_at hl 2 rfl) ?_
  obtain ⟨r_1, h_2, hf⟩ := bd1_el hf
  refine x_callSi (As := [.ref s6, .int p1, .int p2]) (rest := []) ⟨hx, hb, hml, hown, hts⟩ (mX7_aboutRow l D cy s6 s7 Hsz Hla Hce p1 p2 r_1 h_2) (va_cwS 3 hts (gcS_X7_aboutRow hbg wm_21_10) rfl rfl rfl kdX7_aboutRow ⟨Nat.le_of_ble_eq_true rfl, Nat.le_of_ble_eq_true rfl⟩) (w1 := [(a0, .inr (7, [.ref s0, .ref (hd 0), .ref t0, .ref k0]))] ++ (wX2 cy t0 t1 Xle Xch Xpo Xltr Xfi Xse Xth ++ (wX3 cy k0 k1 k2 Ksz Kcl Kke ++ ([(s0, .inr (5, [.ref s1, .ref s6, .ref s8, .ref s10, .int day, .int lim, .int low, .int hig, .int thr, .long off, .long cre, .long rcp, .long pay]))] ++ (wX0 cy s1 s2 s3 s4 s5 Asz Anu Aba Amo Aco))))) (w2 := wX4 cy s8 s9 Bsz Bla Bce ++ (wX6 cy s10 s11 Tma Tlc Ttc ++ (wX1 cy hd sv nx SL))) (w' := wX7 cy a0 t0 t1 k0 k1 k2 s0 s1 s2 s3 s4 s5 s6 s7 s8 s9 s10 s11 hd Xle Xch Xpo Xltr Xfi Xse Xth Ksz Kcl Kke Asz Anu Aba Amo Aco Hsz Hla Hce Bsz Bla Bce Tma Tlc Ttc day lim low hig thr off cre rcp pay sv nx SL) rfl rfl hP hK hD hN hS hA rfl hl rfl (Nat.le_of_ble_eq_true rfl) dX7_holdOf_9 ⟨Nat.zero_le _, Nat.zero_le _⟩ (fun H locs hP hD hS => ?_)
  have hf := Option.some.inj hf
  cases hf
  exact x_iret hx hb hr hlocks hK hP hD hS dX7_holdOf_12
theorem kdX7_billOf : yX7_billOf.cls = RX7 ∧ yX7_billOf.cls ≠ "java/lang/invoke/MethodHandle" ∧ yX7_billOf.cls ≠ "java/lang/invoke/VarHandle" ∧ (parseMethodDescriptor yX7_billOf.desc).map (fun d => d.parameters.length) = some 2 := by decide +kernel
def rmX7_billOf : Room := { frames := 3, cells := 0, slots := 0, locals := 67 }
set_option maxHeartbeats 4000000 in
set_option maxRecDepth 100000 in
theorem mX7_billOf (l : Launch) (D : va_G) (cy : Nat → ClassId) (a0 t0 t1 k0 k1 k2 s0 s1 s2 s3 s4 s5 s6 s7 s8 s9 s10 s11 : Nat) (hd : Nat → Nat) (Xle : Int32) (Xch : Nat → Int32) (Xpo : Int32) (Xltr : Int32) (Xfi : Int32) (Xse : Int32) (Xth : Int32) (Ksz : Int32) (Kcl : Nat → Int32) (Kke : Nat → Int32) (Asz : Int32) (Anu : Nat → Int32) (Aba : Nat → Int32) (Amo : Nat → Int32) (Aco : Nat → Int64) (Hsz : Int32) (Hla : Int32) (Hce : Nat → Int32) (Bsz : Int32) (Bla : Int32) (Bce : Nat → Int32) (Tma : Int32) (Tlc : Int32) (Ttc : Nat → Int32) (day : Int32) (lim : Int32) (low : Int32) (hig : Int32) (thr : Int32) (off : Int64) (cre : Int64) (rcp : Int64) (pay : Int64) (sv : Int32) (nx : Int32) (SL : Nat → XS) (p1 : Int32) (p2 : Int32) (r : Int32) (hf : fX7_billOf Bsz Bce p1 p2 = some r) : xMi l D cy yX7_billOf aX7_billOf rmX7_billOf ([.ref a0, .int p1, .int p2] : List Value) (wX7 cy a0 t0 t1 k0 k1 k2 s0 s1 s2 s3 s4 s5 s6 s7 s8 s9 s10 s11 hd Xle Xch Xpo Xltr Xfi Xse Xth Ksz Kcl Kke Asz Anu Aba Amo Aco Hsz Hla Hce Bsz Bla Bce Tma Tlc Ttc day lim low hig thr off cre rcp pay sv nx SL) (wX7 cy a0 t0 t1 k0 k1 k2 s0 s1 s2 s3 s4 s5 s6 s7 s8 s9 s10 s11 hd Xle Xch Xpo Xltr Xfi Xse Xth Ksz Kcl Kke Asz Anu Aba Amo Aco Hsz Hla Hce Bsz Bla Bce Tma Tlc Ttc day lim low hig thr off cre rcp pay sv nx SL) r := by
  intro hz
  refine x_start (Qc := xQi D cy _ r) (cc := cX7_billOf) (maxL := 3) (ret := (some .int)) (by decide) rfl (Nat.le_of_ble_eq_true rfl) (lv := [(0, .ref a0), (1, .int p1), (2, .int p2)]) rfl ?_
  intro p e s m below meth c ls A hx hb hr hml hown hts hlocks hK hP hD hS hA hN hl
  have hown : s.vm.findClass RX7 = some m.cls := hown
  have hbg : ∀ w ∈ wsL_law, w ∈ aX7_billOf := fun w h => List.mem_cons_of_mem _ h
  have wd0 : (Cond.fieldLink RX7 10 "ClientMoneyBook" "state" "LClientMoneyBook$State;").before ([.ref a0, .int p1, .int p2] : List Value).toArray s = true := hts _ (List.mem_cons_of_mem _ wm_1_1)
  have wd1 : (Cond.fieldLink RX7 124 "ClientMoneyBook$State" "bills" "LClientMoneyBook$Rows;").before ([.ref a0, .int p1, .int p2] : List Value).toArray s = true := hts _ (List.mem_cons_of_mem _ wm_21_19)
  have iX5 : ∀ w ∈ u_ws RX5 TX5 13, w ∈ aX7_billOf := fun w h => List.mem_cons_of_mem _ (inlX5 w h)
  have iX7 : ∀ w ∈ u_ws RX7 TX7 4, w ∈ aX7_billOf := fun w h => List.mem_cons_of_mem _ (inlX7 w h)
  unfold fX7_billOf at hf
  refine lv_aload_n hx hb dX7_billOf_0 rfl (lv_at hl 0 rfl) ?_
  refine x_get hx hb (C := RX7) (T := TX7) (N := 4) (ci := 7) hts iX7 hown hK hP 0 rfl rfl 0 (by decide) wd0 rfl (.ref s0) rfl dX7_billOf_1 ?_
  refine x_get hx hb (C := RX5) (T := TX5) (N := 13) (ci := 5) hts iX5 hown hK hP 6 rfl rfl 2 (by decide) wd1 rfl (.ref s8) rfl dX7_billOf_4 ?_
  refine lv_iload_n hx hb dX7_billOf_7 rfl (lv_at hl 1 rfl) ?_
  refine lv_iload_n hx hb dX7_billOf_8 rfl (lv_at hl 2 rfl) ?_
  obtain ⟨r_1, h_2, hf⟩ := bd1_el hf
  refine x_callSi (As := [.ref s8, .int p1, .int p2]) (rest := []) ⟨hx, hb, hml, hown, hts⟩ (mX7_aboutRow l D cy s8 s9 Bsz Bla Bce p1 p2 r_1 h_2) (va_cwS 3 hts (gcS_X7_aboutRow hbg wm_21_10) rfl rfl rfl kdX7_aboutRow ⟨Nat.le_of_ble_eq_true rfl, Nat.le_of_ble_eq_true rfl⟩) (w1 := [(a0, .inr (7, [.ref s0, .ref (hd 0), .ref t0, .ref k0]))] ++ (wX2 cy t0 t1 Xle Xch Xpo Xltr Xfi Xse Xth ++ (wX3 cy k0 k1 k2 Ksz Kcl Kke ++ ([(s0, .inr (5, [.ref s1, .ref s6, .ref s8, .ref s10, .int day, .int lim, .int low, .int hig, .int thr, .long off, .long cre, .long rcp, .long pay]))] ++ (wX0 cy s1 s2 s3 s4 s5 Asz Anu Aba Amo Aco ++ (wX4 cy s6 s7 Hsz Hla Hce)))))) (w2 := wX6 cy s10 s11 Tma Tlc Ttc ++ (wX1 cy hd sv nx SL)) (w' := wX7 cy a0 t0 t1 k0 k1 k2 s0 s1 s2 s3 s4 s5 s6 s7 s8 s9 s10 s11 hd Xle Xch Xpo Xltr Xfi Xse Xth Ksz Kcl Kke Asz Anu Aba Amo Aco Hsz Hla Hce Bsz Bla Bce Tma Tlc Ttc day lim low hig thr off cre rcp pay sv nx SL) rfl rfl hP hK hD hN hS hA rfl hl rfl (Nat.le_of_ble_eq_true rfl) dX7_billOf_9 ⟨Nat.zero_le _, Nat.zero_le _⟩ (fun H locs hP hD hS => ?_)
  have hf := Option.some.inj hf
  cases hf
  exact x_iret hx hb hr hlocks hK hP hD hS dX7_billOf_12
theorem kdX7_entries : yX7_entries.cls = RX7 ∧ yX7_entries.cls ≠ "java/lang/invoke/MethodHandle" ∧ yX7_entries.cls ≠ "java/lang/invoke/VarHandle" ∧ (parseMethodDescriptor yX7_entries.desc).map (fun d => d.parameters.length) = some 0 := by decide +kernel
def rmX7_entries : Room := { frames := 0, cells := 0, slots := 0, locals := 0 }
set_option maxHeartbeats 4000000 in
set_option maxRecDepth 100000 in
theorem mX7_entries (l : Launch) (D : va_G) (cy : Nat → ClassId) (a0 t0 t1 k0 k1 k2 s0 s1 s2 s3 s4 s5 s6 s7 s8 s9 s10 s11 : Nat) (hd : Nat → Nat) (Xle : Int32) (Xch : Nat → Int32) (Xpo : Int32) (Xltr : Int32) (Xfi : Int32) (Xse : Int32) (Xth : Int32) (Ksz : Int32) (Kcl : Nat → Int32) (Kke : Nat → Int32) (Asz : Int32) (Anu : Nat → Int32) (Aba : Nat → Int32) (Amo : Nat → Int32) (Aco : Nat → Int64) (Hsz : Int32) (Hla : Int32) (Hce : Nat → Int32) (Bsz : Int32) (Bla : Int32) (Bce : Nat → Int32) (Tma : Int32) (Tlc : Int32) (Ttc : Nat → Int32) (day : Int32) (lim : Int32) (low : Int32) (hig : Int32) (thr : Int32) (off : Int64) (cre : Int64) (rcp : Int64) (pay : Int64) (sv : Int32) (nx : Int32) (SL : Nat → XS)  (r : Int32) (hf : fX7_entries Tma = some r) : xMi l D cy yX7_entries aX7_entries rmX7_entries ([.ref a0] : List Value) (wX7 cy a0 t0 t1 k0 k1 k2 s0 s1 s2 s3 s4 s5 s6 s7 s8 s9 s10 s11 hd Xle Xch Xpo Xltr Xfi Xse Xth Ksz Kcl Kke Asz Anu Aba Amo Aco Hsz Hla Hce Bsz Bla Bce Tma Tlc Ttc day lim low hig thr off cre rcp pay sv nx SL) (wX7 cy a0 t0 t1 k0 k1 k2 s0 s1 s2 s3 s4 s5 s6 s7 s8 s9 s10 s11 hd Xle Xch Xpo Xltr Xfi Xse Xth Ksz Kcl Kke Asz Anu Aba Amo Aco Hsz Hla Hce Bsz Bla Bce Tma Tlc Ttc day lim low hig thr off cre rcp pay sv nx SL) r := by
  intro hz
  refine x_start (Qc := xQi D cy _ r) (cc := cX7_entries) (maxL := 1) (ret := (some .int)) (by decide) rfl (Nat.le_of_ble_eq_true rfl) (lv := [(0, .ref a0)]) rfl ?_
  intro p e s m below meth c ls A hx hb hr hml hown hts hlocks hK hP hD hS hA hN hl
  have hown : s.vm.findClass RX7 = some m.cls := hown
  have hbg : ∀ w ∈ wsL_law, w ∈ aX7_entries := fun w h => List.mem_cons_of_mem _ h
  have wd0 : (Cond.fieldLink RX7 10 "ClientMoneyBook" "state" "LClientMoneyBook$State;").before ([.ref a0] : List Value).toArray s = true := hts _ (List.mem_cons_of_mem _ wm_1_1)
  have wd1 : (Cond.fieldLink RX7 127 "ClientMoneyBook$State" "trail" "LClientMoneyBook$Trail;").before ([.ref a0] : List Value).toArray s = true := hts _ (List.mem_cons_of_mem _ wm_18_19)
  have wd2 : (Cond.fieldLink RX7 131 "ClientMoneyBook$Trail" "made" "I").before ([.ref a0] : List Value).toArray s = true := hts _ (List.mem_cons_of_mem _ wm_22_9)
  have iX5 : ∀ w ∈ u_ws RX5 TX5 13, w ∈ aX7_entries := fun w h => List.mem_cons_of_mem _ (inlX5 w h)
  have iX6 : ∀ w ∈ u_ws RX6 TX6 3, w ∈ aX7_entries := fun w h => List.mem_cons_of_mem _ (inlX6 w h)
  have iX7 : ∀ w ∈ u_ws RX7 TX7 4, w ∈ aX7_entries := fun w h => List.mem_cons_of_mem _ (inlX7 w h)
  unfold fX7_entries at hf
  refine lv_aload_n hx hb dX7_entries_0 rfl (lv_at hl 0 rfl) ?_
  refine x_get hx hb (C := RX7) (T := TX7) (N := 4) (ci := 7) hts iX7 hown hK hP 0 rfl rfl 0 (by decide) wd0 rfl (.ref s0) rfl dX7_entries_1 ?_
  refine x_get hx hb (C := RX5) (T := TX5) (N := 13) (ci := 5) hts iX5 hown hK hP 6 rfl rfl 3 (by decide) wd1 rfl (.ref s10) rfl dX7_entries_4 ?_
  refine x_get hx hb (C := RX6) (T := TX6) (N := 3) (ci := 6) hts iX6 hown hK hP 16 rfl rfl 0 (by decide) wd2 rfl (.int Tma) rfl dX7_entries_7 ?_
  have hf := Option.some.inj hf
  cases hf
  exact x_iret hx hb hr hlocks hK hP hD hS dX7_entries_10
theorem kdX7_entry : yX7_entry.cls = RX7 ∧ yX7_entry.cls ≠ "java/lang/invoke/MethodHandle" ∧ yX7_entry.cls ≠ "java/lang/invoke/VarHandle" ∧ (parseMethodDescriptor yX7_entry.desc).map (fun d => d.parameters.length) = some 2 := by decide +kernel
def rmX7_entry : Room := { frames := 2, cells := 0, slots := 0, locals := 44 }
set_option maxHeartbeats 4000000 in
set_option maxRecDepth 100000 in
theorem mX7_entry (l : Launch) (D : va_G) (cy : Nat → ClassId) (a0 t0 t1 k0 k1 k2 s0 s1 s2 s3 s4 s5 s6 s7 s8 s9 s10 s11 : Nat) (hd : Nat → Nat) (Xle : Int32) (Xch : Nat → Int32) (Xpo : Int32) (Xltr : Int32) (Xfi : Int32) (Xse : Int32) (Xth : Int32) (Ksz : Int32) (Kcl : Nat → Int32) (Kke : Nat → Int32) (Asz : Int32) (Anu : Nat → Int32) (Aba : Nat → Int32) (Amo : Nat → Int32) (Aco : Nat → Int64) (Hsz : Int32) (Hla : Int32) (Hce : Nat → Int32) (Bsz : Int32) (Bla : Int32) (Bce : Nat → Int32) (Tma : Int32) (Tlc : Int32) (Ttc : Nat → Int32) (day : Int32) (lim : Int32) (low : Int32) (hig : Int32) (thr : Int32) (off : Int64) (cre : Int64) (rcp : Int64) (pay : Int64) (sv : Int32) (nx : Int32) (SL : Nat → XS) (p1 : Int32) (p2 : Int32) (r : Int32) (hf : fX7_entry Tma Ttc p1 p2 = some r) : xMi l D cy yX7_entry aX7_entry rmX7_entry ([.ref a0, .int p1, .int p2] : List Value) (wX7 cy a0 t0 t1 k0 k1 k2 s0 s1 s2 s3 s4 s5 s6 s7 s8 s9 s10 s11 hd Xle Xch Xpo Xltr Xfi Xse Xth Ksz Kcl Kke Asz Anu Aba Amo Aco Hsz Hla Hce Bsz Bla Bce Tma Tlc Ttc day lim low hig thr off cre rcp pay sv nx SL) (wX7 cy a0 t0 t1 k0 k1 k2 s0 s1 s2 s3 s4 s5 s6 s7 s8 s9 s10 s11 hd Xle Xch Xpo Xltr Xfi Xse Xth Ksz Kcl Kke Asz Anu Aba Amo Aco Hsz Hla Hce Bsz Bla Bce Tma Tlc Ttc day lim low hig thr off cre rcp pay sv nx SL) r := by
  intro hz
  refine x_start (Qc := xQi D cy _ r) (cc := cX7_entry) (maxL := 3) (ret := (some .int)) (by decide) rfl (Nat.le_of_ble_eq_true rfl) (lv := [(0, .ref a0), (1, .int p1), (2, .int p2)]) rfl ?_
  intro p e s m below meth c ls A hx hb hr hml hown hts hlocks hK hP hD hS hA hN hl
  have hown : s.vm.findClass RX7 = some m.cls := hown
  have hbg : ∀ w ∈ wsL_law, w ∈ aX7_entry := fun w h => List.mem_cons_of_mem _ h
  have wd0 : (Cond.fieldLink RX7 10 "ClientMoneyBook" "state" "LClientMoneyBook$State;").before ([.ref a0, .int p1, .int p2] : List Value).toArray s = true := hts _ (List.mem_cons_of_mem _ wm_1_1)
  have wd1 : (Cond.fieldLink RX7 127 "ClientMoneyBook$State" "trail" "LClientMoneyBook$Trail;").before ([.ref a0, .int p1, .int p2] : List Value).toArray s = true := hts _ (List.mem_cons_of_mem _ wm_18_19)
  have iX5 : ∀ w ∈ u_ws RX5 TX5 13, w ∈ aX7_entry := fun w h => List.mem_cons_of_mem _ (inlX5 w h)
  have iX7 : ∀ w ∈ u_ws RX7 TX7 4, w ∈ aX7_entry := fun w h => List.mem_cons_of_mem _ (inlX7 w h)
  unfold fX7_entry at hf
  refine lv_aload_n hx hb dX7_entry_0 rfl (lv_at hl 0 rfl) ?_
  refine x_get hx hb (C := RX7) (T := TX7) (N := 4) (ci := 7) hts iX7 hown hK hP 0 rfl rfl 0 (by decide) wd0 rfl (.ref s0) rfl dX7_entry_1 ?_
  refine x_get hx hb (C := RX5) (T := TX5) (N := 13) (ci := 5) hts iX5 hown hK hP 6 rfl rfl 3 (by decide) wd1 rfl (.ref s10) rfl dX7_entry_4 ?_
  refine lv_iload_n hx hb dX7_entry_7 rfl (lv_at hl 1 rfl) ?_
  obtain ⟨r_1, h_2, hf⟩ := bd1_el hf
  refine x_callVi (As := [.int p1]) (rest := []) ⟨hx, hb, hml, hown, hts⟩ (mX6_keeps l D cy s10 s11 Tma Tlc Ttc p1 r_1 h_2) (cwV 1 hts (gcV_X6_keeps hbg wm_18_20) rfl rfl rfl kdX6_keeps ⟨Nat.le_of_ble_eq_true rfl, Nat.le_of_ble_eq_true rfl⟩) (w1 := [(a0, .inr (7, [.ref s0, .ref (hd 0), .ref t0, .ref k0]))] ++ (wX2 cy t0 t1 Xle Xch Xpo Xltr Xfi Xse Xth ++ (wX3 cy k0 k1 k2 Ksz Kcl Kke ++ ([(s0, .inr (5, [.ref s1, .ref s6, .ref s8, .ref s10, .int day, .int lim, .int low, .int hig, .int thr, .long off, .long cre, .long rcp, .long pay]))] ++ (wX0 cy s1 s2 s3 s4 s5 Asz Anu Aba Amo Aco ++ (wX4 cy s6 s7 Hsz Hla Hce ++ (wX4 cy s8 s9 Bsz Bla Bce))))))) (w2 := wX1 cy hd sv nx SL) (w' := wX7 cy a0 t0 t1 k0 k1 k2 s0 s1 s2 s3 s4 s5 s6 s7 s8 s9 s10 s11 hd Xle Xch Xpo Xltr Xfi Xse Xth Ksz Kcl Kke Asz Anu Aba Amo Aco Hsz Hla Hce Bsz Bla Bce Tma Tlc Ttc day lim low hig thr off cre rcp pay sv nx SL) rfl rfl hP hK hD hN hS hA (q0 := 0) rfl rfl rfl rfl hl rfl (Nat.le_of_ble_eq_true rfl) dX7_entry_8 ⟨Nat.zero_le _, Nat.zero_le _⟩ (fun H locs hP hD hS => ?_)
  refine lv_if_ne (tgt := 16) hx hb dX7_entry_11 (by decide) (fun c_3 => ?_) (fun c_3 => ?_)
  · have hf := x_f c_3 hf
    refine lv_iload_n hx hb dX7_entry_16 rfl (lv_at hl 2 rfl) ?_
    refine lv_if_lt (tgt := 26) hx hb dX7_entry_17 (by decide) (fun c_4 => ?_) (fun c_4 => ?_)
    · have hf := x_t c_4 hf
      refine lv_bipush (v := (-2)) hx hb dX7_entry_26 (by decide) ?_
      have hf := Option.some.inj hf
      cases hf
      exact x_iret hx hb hr hlocks hK hP hD hS dX7_entry_28
    · have hf := x_f c_4 hf
      refine lv_iload_n hx hb dX7_entry_20 rfl (lv_at hl 2 rfl) ?_
      refine lv_bipush (v := 6) hx hb dX7_entry_21 (by decide) ?_
      refine lv_icmp_le (tgt := 29) hx hb dX7_entry_23 (by decide) (fun c_5 => ?_) (fun c_5 => ?_)
      · have hf := x_t c_5 hf
        refine lv_aload_n hx hb dX7_entry_29 rfl (lv_at hl 0 rfl) ?_
        refine x_get hx hb (C := RX7) (T := TX7) (N := 4) (ci := 7) hts iX7 hown hK hP 0 rfl rfl 0 (by decide) wd0 rfl (.ref s0) rfl dX7_entry_30 ?_
        refine x_get hx hb (C := RX5) (T := TX5) (N := 13) (ci := 5) hts iX5 hown hK hP 6 rfl rfl 3 (by decide) wd1 rfl (.ref s10) rfl dX7_entry_33 ?_
        refine lv_iload_n hx hb dX7_entry_36 rfl (lv_at hl 1 rfl) ?_
        refine lv_iload_n hx hb dX7_entry_37 rfl (lv_at hl 2 rfl) ?_
        obtain ⟨r_6, h_7, hf⟩ := bd1_el hf
        refine x_callVi (As := [.int p1, .int p2]) (rest := []) ⟨hx, hb, hml, hown, hts⟩ (mX6_get l D cy s10 s11 Tma Tlc Ttc p1 p2 r_6 h_7) (cwV 2 hts (gcV_X6_get hbg wm_18_21) rfl rfl rfl kdX6_get ⟨Nat.le_of_ble_eq_true rfl, Nat.le_of_ble_eq_true rfl⟩) (w1 := [(a0, .inr (7, [.ref s0, .ref (hd 0), .ref t0, .ref k0]))] ++ (wX2 cy t0 t1 Xle Xch Xpo Xltr Xfi Xse Xth ++ (wX3 cy k0 k1 k2 Ksz Kcl Kke ++ ([(s0, .inr (5, [.ref s1, .ref s6, .ref s8, .ref s10, .int day, .int lim, .int low, .int hig, .int thr, .long off, .long cre, .long rcp, .long pay]))] ++ (wX0 cy s1 s2 s3 s4 s5 Asz Anu Aba Amo Aco ++ (wX4 cy s6 s7 Hsz Hla Hce ++ (wX4 cy s8 s9 Bsz Bla Bce))))))) (w2 := wX1 cy hd sv nx SL) (w' := wX7 cy a0 t0 t1 k0 k1 k2 s0 s1 s2 s3 s4 s5 s6 s7 s8 s9 s10 s11 hd Xle Xch Xpo Xltr Xfi Xse Xth Ksz Kcl Kke Asz Anu Aba Amo Aco Hsz Hla Hce Bsz Bla Bce Tma Tlc Ttc day lim low hig thr off cre rcp pay sv nx SL) rfl rfl hP hK hD hN hS hA (q0 := 0) rfl rfl rfl rfl hl rfl (Nat.le_of_ble_eq_true rfl) dX7_entry_38 ⟨Nat.zero_le _, Nat.zero_le _⟩ (fun H locs hP hD hS => ?_)
        have hf := Option.some.inj hf
        cases hf
        exact x_iret hx hb hr hlocks hK hP hD hS dX7_entry_41
      · have hf := x_f c_5 hf
        refine lv_bipush (v := (-2)) hx hb dX7_entry_26 (by decide) ?_
        have hf := Option.some.inj hf
        cases hf
        exact x_iret hx hb hr hlocks hK hP hD hS dX7_entry_28
  · have hf := x_t c_3 hf
    refine lv_iconst (v := (-1)) hx hb dX7_entry_14 (by decide) ?_
    have hf := Option.some.inj hf
    cases hf
    exact x_iret hx hb hr hlocks hK hP hD hS dX7_entry_15
theorem kdX7_sum : yX7_sum.cls = RX7 ∧ yX7_sum.cls ≠ "java/lang/invoke/MethodHandle" ∧ yX7_sum.cls ≠ "java/lang/invoke/VarHandle" ∧ (parseMethodDescriptor yX7_sum.desc).map (fun d => d.parameters.length) = some 1 := by decide +kernel
def rmX7_sum : Room := { frames := 3, cells := 0, slots := 0, locals := 65 }
set_option maxHeartbeats 4000000 in
set_option maxRecDepth 100000 in
theorem mX7_sum (l : Launch) (D : va_G) (cy : Nat → ClassId) (a0 t0 t1 k0 k1 k2 s0 s1 s2 s3 s4 s5 s6 s7 s8 s9 s10 s11 : Nat) (hd : Nat → Nat) (Xle : Int32) (Xch : Nat → Int32) (Xpo : Int32) (Xltr : Int32) (Xfi : Int32) (Xse : Int32) (Xth : Int32) (Ksz : Int32) (Kcl : Nat → Int32) (Kke : Nat → Int32) (Asz : Int32) (Anu : Nat → Int32) (Aba : Nat → Int32) (Amo : Nat → Int32) (Aco : Nat → Int64) (Hsz : Int32) (Hla : Int32) (Hce : Nat → Int32) (Bsz : Int32) (Bla : Int32) (Bce : Nat → Int32) (Tma : Int32) (Tlc : Int32) (Ttc : Nat → Int32) (day : Int32) (lim : Int32) (low : Int32) (hig : Int32) (thr : Int32) (off : Int64) (cre : Int64) (rcp : Int64) (pay : Int64) (sv : Int32) (nx : Int32) (SL : Nat → XS) (p1 : Int32) (r : Int64) (hf : fX7_sum Asz Aba Hsz Hce off cre rcp pay p1 = some r) : xMl l D cy yX7_sum aX7_sum rmX7_sum ([.ref a0, .int p1] : List Value) (wX7 cy a0 t0 t1 k0 k1 k2 s0 s1 s2 s3 s4 s5 s6 s7 s8 s9 s10 s11 hd Xle Xch Xpo Xltr Xfi Xse Xth Ksz Kcl Kke Asz Anu Aba Amo Aco Hsz Hla Hce Bsz Bla Bce Tma Tlc Ttc day lim low hig thr off cre rcp pay sv nx SL) (wX7 cy a0 t0 t1 k0 k1 k2 s0 s1 s2 s3 s4 s5 s6 s7 s8 s9 s10 s11 hd Xle Xch Xpo Xltr Xfi Xse Xth Ksz Kcl Kke Asz Anu Aba Amo Aco Hsz Hla Hce Bsz Bla Bce Tma Tlc Ttc day lim low hig thr off cre rcp pay sv nx SL) r := by
  intro hz
  refine x_start (Qc := xQl D cy _ r) (cc := cX7_sum) (maxL := 2) (ret := (some .long)) (by decide) rfl (Nat.le_of_ble_eq_true rfl) (lv := [(0, .ref a0), (1, .int p1)]) rfl ?_
  intro p e s m below meth c ls A hx hb hr hml hown hts hlocks hK hP hD hS hA hN hl
  have hown : s.vm.findClass RX7 = some m.cls := hown
  have hbg : ∀ w ∈ wsL_law, w ∈ aX7_sum := fun w h => List.mem_cons_of_mem _ h
  have wd0 : (Cond.fieldLink RX7 10 "ClientMoneyBook" "state" "LClientMoneyBook$State;").before ([.ref a0, .int p1] : List Value).toArray s = true := hts _ (List.mem_cons_of_mem _ wm_1_1)
  have wd1 : (Cond.fieldLink RX7 94 "ClientMoneyBook$State" "accounts" "LClientMoneyBook$Accounts;").before ([.ref a0, .int p1] : List Value).toArray s = true := hts _ (List.mem_cons_of_mem _ wm_14_6)
  have wd2 : (Cond.fieldLink RX7 116 "ClientMoneyBook$State" "holds" "LClientMoneyBook$Rows;").before ([.ref a0, .int p1] : List Value).toArray s = true := hts _ (List.mem_cons_of_mem _ wm_21_9)
  have wd3 : (Cond.fieldLink RX7 152 "ClientMoneyBook$State" "office" "J").before ([.ref a0, .int p1] : List Value).toArray s = true := hts _ (List.mem_cons_of_mem _ wm_22_14)
  have wd4 : (Cond.fieldLink RX7 156 "ClientMoneyBook$State" "credited" "J").before ([.ref a0, .int p1] : List Value).toArray s = true := hts _ (List.mem_cons_of_mem _ wm_22_15)
  have wd5 : (Cond.fieldLink RX7 159 "ClientMoneyBook$State" "receipts" "J").before ([.ref a0, .int p1] : List Value).toArray s = true := hts _ (List.mem_cons_of_mem _ wm_22_16)
  have wd6 : (Cond.fieldLink RX7 162 "ClientMoneyBook$State" "payments" "J").before ([.ref a0, .int p1] : List Value).toArray s = true := hts _ (List.mem_cons_of_mem _ wm_22_17)
  have wd7 : (Cond.constantLong RX7 165 (-2)).before ([.ref a0, .int p1] : List Value).toArray s = true := hts _ (List.mem_cons_of_mem _ wm_22_18)
  have iX5 : ∀ w ∈ u_ws RX5 TX5 13, w ∈ aX7_sum := fun w h => List.mem_cons_of_mem _ (inlX5 w h)
  have iX7 : ∀ w ∈ u_ws RX7 TX7 4, w ∈ aX7_sum := fun w h => List.mem_cons_of_mem _ (inlX7 w h)
  unfold fX7_sum at hf
  refine lv_iload_n hx hb dX7_sum_0 rfl (lv_at hl 1 rfl) ?_
  by_cases s_1 : p1 = 0
  · have hf := x_t s_1 hf
    have s_1i : p1.toInt = 0 := by rw [s_1]; rfl
    refine lv_tableIn (tgt := 40) (off := 39) hx hb dX7_sum_1 (by rw [s_1i]; decide) (by rw [s_1i]; decide) (by rw [s_1i]; rfl) (by decide) ?_
    refine lv_aload_n hx hb dX7_sum_40 rfl (lv_at hl 0 rfl) ?_
    refine x_get hx hb (C := RX7) (T := TX7) (N := 4) (ci := 7) hts iX7 hown hK hP 0 rfl rfl 0 (by decide) wd0 rfl (.ref s0) rfl dX7_sum_41 ?_
    refine x_get hx hb (C := RX5) (T := TX5) (N := 13) (ci := 5) hts iX5 hown hK hP 6 rfl rfl 0 (by decide) wd1 rfl (.ref s1) rfl dX7_sum_44 ?_
    obtain ⟨r_2, h_3, hf⟩ := bd1_el hf
    refine x_callVl (As := []) (rest := []) ⟨hx, hb, hml, hown, hts⟩ (mX0_sumOfBalances l D cy s1 s2 s3 s4 s5 Asz Anu Aba Amo Aco  r_2 h_3) (cwV 0 hts (gcV_X0_sumOfBalances hbg wm_22_19) rfl rfl rfl kdX0_sumOfBalances ⟨Nat.le_of_ble_eq_true rfl, Nat.le_of_ble_eq_true rfl⟩) (w1 := [(a0, .inr (7, [.ref s0, .ref (hd 0), .ref t0, .ref k0]))] ++ (wX2 cy t0 t1 Xle Xch Xpo Xltr Xfi Xse Xth ++ (wX3 cy k0 k1 k2 Ksz Kcl Kke ++ ([(s0, .inr (5, [.ref s1, .ref s6, .ref s8, .ref s10, .int day, .int lim, .int low, .int hig, .int thr, .long off, .long cre, .long rcp, .long pay]))])))) (w2 := wX4 cy s6 s7 Hsz Hla Hce ++ (wX4 cy s8 s9 Bsz Bla Bce ++ (wX6 cy s10 s11 Tma Tlc Ttc ++ (wX1 cy hd sv nx SL)))) (w' := wX7 cy a0 t0 t1 k0 k1 k2 s0 s1 s2 s3 s4 s5 s6 s7 s8 s9 s10 s11 hd Xle Xch Xpo Xltr Xfi Xse Xth Ksz Kcl Kke Asz Anu Aba Amo Aco Hsz Hla Hce Bsz Bla Bce Tma Tlc Ttc day lim low hig thr off cre rcp pay sv nx SL) rfl rfl hP hK hD hN hS hA (q0 := 0) rfl rfl rfl rfl hl rfl (Nat.le_of_ble_eq_true rfl) dX7_sum_47 ⟨Nat.zero_le _, Nat.zero_le _⟩ (fun H locs hP hD hS => ?_)
    have hf := Option.some.inj hf
    cases hf
    exact x_lret hx hb hr hlocks hK hP hD hS dX7_sum_50
  · have hf := x_f s_1 hf
    by_cases s_4 : p1 = 1
    · have hf := x_t s_4 hf
      have s_4i : p1.toInt = 1 := by rw [s_4]; rfl
      refine lv_tableIn (tgt := 51) (off := 50) hx hb dX7_sum_1 (by rw [s_4i]; decide) (by rw [s_4i]; decide) (by rw [s_4i]; rfl) (by decide) ?_
      refine lv_aload_n hx hb dX7_sum_51 rfl (lv_at hl 0 rfl) ?_
      refine x_get hx hb (C := RX7) (T := TX7) (N := 4) (ci := 7) hts iX7 hown hK hP 0 rfl rfl 0 (by decide) wd0 rfl (.ref s0) rfl dX7_sum_52 ?_
      refine x_get hx hb (C := RX5) (T := TX5) (N := 13) (ci := 5) hts iX5 hown hK hP 6 rfl rfl 1 (by decide) wd2 rfl (.ref s6) rfl dX7_sum_55 ?_
      refine lv_iconst (v := 2) hx hb dX7_sum_58 (by decide) ?_
      obtain ⟨r_5, h_6, hf⟩ := bd1_el hf
      refine x_callVl (As := [.int 2]) (rest := []) ⟨hx, hb, hml, hown, hts⟩ (mX4_sumOfAll l D cy s6 s7 Hsz Hla Hce 2 r_5 h_6) (cwV 1 hts (gcV_X4_sumOfAll hbg wm_23_0) rfl rfl rfl kdX4_sumOfAll ⟨Nat.le_of_ble_eq_true rfl, Nat.le_of_ble_eq_true rfl⟩) (w1 := [(a0, .inr (7, [.ref s0, .ref (hd 0), .ref t0, .ref k0]))] ++ (wX2 cy t0 t1 Xle Xch Xpo Xltr Xfi Xse Xth ++ (wX3 cy k0 k1 k2 Ksz Kcl Kke ++ ([(s0, .inr (5, [.ref s1, .ref s6, .ref s8, .ref s10, .int day, .int lim, .int low, .int hig, .int thr, .long off, .long cre, .long rcp, .long pay]))] ++ (wX0 cy s1 s2 s3 s4 s5 Asz Anu Aba Amo Aco))))) (w2 := wX4 cy s8 s9 Bsz Bla Bce ++ (wX6 cy s10 s11 Tma Tlc Ttc ++ (wX1 cy hd sv nx SL))) (w' := wX7 cy a0 t0 t1 k0 k1 k2 s0 s1 s2 s3 s4 s5 s6 s7 s8 s9 s10 s11 hd Xle Xch Xpo Xltr Xfi Xse Xth Ksz Kcl Kke Asz Anu Aba Amo Aco Hsz Hla Hce Bsz Bla Bce Tma Tlc Ttc day lim low hig thr off cre rcp pay sv nx SL) rfl rfl hP hK hD hN hS hA (q0 := 0) rfl rfl rfl rfl hl rfl (Nat.le_of_ble_eq_true rfl) dX7_sum_59 ⟨Nat.zero_le _, Nat.zero_le _⟩ (fun H locs hP hD hS => ?_)
      have hf := Option.some.inj hf
      cases hf
      exact x_lret hx hb hr hlocks hK hP hD hS dX7_sum_62
    · have hf := x_f s_4 hf
      by_cases s_7 : p1 = 2
      · have hf := x_t s_7 hf
        have s_7i : p1.toInt = 2 := by rw [s_7]; rfl
        refine lv_tableIn (tgt := 63) (off := 62) hx hb dX7_sum_1 (by rw [s_7i]; decide) (by rw [s_7i]; decide) (by rw [s_7i]; rfl) (by decide) ?_
        refine lv_aload_n hx hb dX7_sum_63 rfl (lv_at hl 0 rfl) ?_
        refine x_get hx hb (C := RX7) (T := TX7) (N := 4) (ci := 7) hts iX7 hown hK hP 0 rfl rfl 0 (by decide) wd0 rfl (.ref s0) rfl dX7_sum_64 ?_
        refine x_get hx hb (C := RX5) (T := TX5) (N := 13) (ci := 5) hts iX5 hown hK hP 6 rfl rfl 9 (by decide) wd3 rfl (.long off) rfl dX7_sum_67 ?_
        have hf := Option.some.inj hf
        cases hf
        exact x_lret hx hb hr hlocks hK hP hD hS dX7_sum_70
      · have hf := x_f s_7 hf
        by_cases s_8 : p1 = 3
        · have hf := x_t s_8 hf
          have s_8i : p1.toInt = 3 := by rw [s_8]; rfl
          refine lv_tableIn (tgt := 71) (off := 70) hx hb dX7_sum_1 (by rw [s_8i]; decide) (by rw [s_8i]; decide) (by rw [s_8i]; rfl) (by decide) ?_
          refine lv_aload_n hx hb dX7_sum_71 rfl (lv_at hl 0 rfl) ?_
          refine x_get hx hb (C := RX7) (T := TX7) (N := 4) (ci := 7) hts iX7 hown hK hP 0 rfl rfl 0 (by decide) wd0 rfl (.ref s0) rfl dX7_sum_72 ?_
          refine x_get hx hb (C := RX5) (T := TX5) (N := 13) (ci := 5) hts iX5 hown hK hP 6 rfl rfl 10 (by decide) wd4 rfl (.long cre) rfl dX7_sum_75 ?_
          have hf := Option.some.inj hf
          cases hf
          exact x_lret hx hb hr hlocks hK hP hD hS dX7_sum_78
        · have hf := x_f s_8 hf
          by_cases s_9 : p1 = 4
          · have hf := x_t s_9 hf
            have s_9i : p1.toInt = 4 := by rw [s_9]; rfl
            refine lv_tableIn (tgt := 79) (off := 78) hx hb dX7_sum_1 (by rw [s_9i]; decide) (by rw [s_9i]; decide) (by rw [s_9i]; rfl) (by decide) ?_
            refine lv_aload_n hx hb dX7_sum_79 rfl (lv_at hl 0 rfl) ?_
            refine x_get hx hb (C := RX7) (T := TX7) (N := 4) (ci := 7) hts iX7 hown hK hP 0 rfl rfl 0 (by decide) wd0 rfl (.ref s0) rfl dX7_sum_80 ?_
            refine x_get hx hb (C := RX5) (T := TX5) (N := 13) (ci := 5) hts iX5 hown hK hP 6 rfl rfl 11 (by decide) wd5 rfl (.long rcp) rfl dX7_sum_83 ?_
            have hf := Option.some.inj hf
            cases hf
            exact x_lret hx hb hr hlocks hK hP hD hS dX7_sum_86
          · have hf := x_f s_9 hf
            by_cases s_10 : p1 = 5
            · have hf := x_t s_10 hf
              have s_10i : p1.toInt = 5 := by rw [s_10]; rfl
              refine lv_tableIn (tgt := 87) (off := 86) hx hb dX7_sum_1 (by rw [s_10i]; decide) (by rw [s_10i]; decide) (by rw [s_10i]; rfl) (by decide) ?_
              refine lv_aload_n hx hb dX7_sum_87 rfl (lv_at hl 0 rfl) ?_
              refine x_get hx hb (C := RX7) (T := TX7) (N := 4) (ci := 7) hts iX7 hown hK hP 0 rfl rfl 0 (by decide) wd0 rfl (.ref s0) rfl dX7_sum_88 ?_
              refine x_get hx hb (C := RX5) (T := TX5) (N := 13) (ci := 5) hts iX5 hown hK hP 6 rfl rfl 12 (by decide) wd6 rfl (.long pay) rfl dX7_sum_91 ?_
              have hf := Option.some.inj hf
              cases hf
              exact x_lret hx hb hr hlocks hK hP hD hS dX7_sum_94
            · have hf := x_f s_10 hf
              refine lv_tableOut (tgt := 95) hx hb dX7_sum_1 (x_out0_5 s_1 s_4 s_7 s_8 s_9 s_10) (by decide) ?_
              refine lv_ldc2 hx hb hown wd7 dX7_sum_95 ?_
              have hf := Option.some.inj hf
              cases hf
              exact x_lret hx hb hr hlocks hK hP hD hS dX7_sum_98
theorem kdX7_payableOn : yX7_payableOn.cls = RX7 ∧ yX7_payableOn.cls ≠ "java/lang/invoke/MethodHandle" ∧ yX7_payableOn.cls ≠ "java/lang/invoke/VarHandle" ∧ (parseMethodDescriptor yX7_payableOn.desc).map (fun d => d.parameters.length) = some 2 := by decide +kernel
def rmX7_payableOn : Room := { frames := 3, cells := 0, slots := 0, locals := 77 }
set_option maxHeartbeats 4000000 in
set_option maxRecDepth 100000 in
theorem mX7_payableOn (l : Launch) (D : va_G) (cy : Nat → ClassId) (a0 t0 t1 k0 k1 k2 s0 s1 s2 s3 s4 s5 s6 s7 s8 s9 s10 s11 : Nat) (hd : Nat → Nat) (Xle : Int32) (Xch : Nat → Int32) (Xpo : Int32) (Xltr : Int32) (Xfi : Int32) (Xse : Int32) (Xth : Int32) (Ksz : Int32) (Kcl : Nat → Int32) (Kke : Nat → Int32) (Asz : Int32) (Anu : Nat → Int32) (Aba : Nat → Int32) (Amo : Nat → Int32) (Aco : Nat → Int64) (Hsz : Int32) (Hla : Int32) (Hce : Nat → Int32) (Bsz : Int32) (Bla : Int32) (Bce : Nat → Int32) (Tma : Int32) (Tlc : Int32) (Ttc : Nat → Int32) (day : Int32) (lim : Int32) (low : Int32) (hig : Int32) (thr : Int32) (off : Int64) (cre : Int64) (rcp : Int64) (pay : Int64) (sv : Int32) (nx : Int32) (SL : Nat → XS) (p1 : Int32) (p2 : Int32) (r : Int32) (hf : fX7_payableOn Asz Anu Aba Aco Hsz Hce day lim low hig thr p1 p2 = some r) : xMi l D cy yX7_payableOn aX7_payableOn rmX7_payableOn ([.ref a0, .int p1, .int p2] : List Value) (wX7 cy a0 t0 t1 k0 k1 k2 s0 s1 s2 s3 s4 s5 s6 s7 s8 s9 s10 s11 hd Xle Xch Xpo Xltr Xfi Xse Xth Ksz Kcl Kke Asz Anu Aba Amo Aco Hsz Hla Hce Bsz Bla Bce Tma Tlc Ttc day lim low hig thr off cre rcp pay sv nx SL) (wX7 cy a0 t0 t1 k0 k1 k2 s0 s1 s2 s3 s4 s5 s6 s7 s8 s9 s10 s11 hd Xle Xch Xpo Xltr Xfi Xse Xth Ksz Kcl Kke Asz Anu Aba Amo Aco Hsz Hla Hce Bsz Bla Bce Tma Tlc Ttc day lim low hig thr off cre rcp pay sv nx SL) r := by
  intro hz
  refine x_start (Qc := xQi D cy _ r) (cc := cX7_payableOn) (maxL := 4) (ret := (some .int)) (by decide) rfl (Nat.le_of_ble_eq_true rfl) (lv := [(0, .ref a0), (1, .int p1), (2, .int p2)]) rfl ?_
  intro p e s m below meth c ls A hx hb hr hml hown hts hlocks hK hP hD hS hA hN hl
  have hown : s.vm.findClass RX7 = some m.cls := hown
  have hbg : ∀ w ∈ wsL_law, w ∈ aX7_payableOn := fun w h => List.mem_cons_of_mem _ h
  have wd0 : (Cond.fieldLink RX7 10 "ClientMoneyBook" "state" "LClientMoneyBook$State;").before ([.ref a0, .int p1, .int p2] : List Value).toArray s = true := hts _ (List.mem_cons_of_mem _ wm_1_1)
  have wd1 : (Cond.fieldLink RX7 94 "ClientMoneyBook$State" "accounts" "LClientMoneyBook$Accounts;").before ([.ref a0, .int p1, .int p2] : List Value).toArray s = true := hts _ (List.mem_cons_of_mem _ wm_14_6)
  have iX5 : ∀ w ∈ u_ws RX5 TX5 13, w ∈ aX7_payableOn := fun w h => List.mem_cons_of_mem _ (inlX5 w h)
  have iX7 : ∀ w ∈ u_ws RX7 TX7 4, w ∈ aX7_payableOn := fun w h => List.mem_cons_of_mem _ (inlX7 w h)
  unfold fX7_payableOn at hf
  refine lv_aload_n hx hb dX7_payableOn_0 rfl (lv_at hl 0 rfl) ?_
  refine x_get hx hb (C := RX7) (T := TX7) (N := 4) (ci := 7) hts iX7 hown hK hP 0 rfl rfl 0 (by decide) wd0 rfl (.ref s0) rfl dX7_payableOn_1 ?_
  refine x_get hx hb (C := RX5) (T := TX5) (N := 13) (ci := 5) hts iX5 hown hK hP 6 rfl rfl 0 (by decide) wd1 rfl (.ref s1) rfl dX7_payableOn_4 ?_
  refine lv_iload_n hx hb dX7_payableOn_7 rfl (lv_at hl 1 rfl) ?_
  obtain ⟨r_1, h_2, hf⟩ := bd1_el hf
  refine x_callVi (As := [.int p1]) (rest := []) ⟨hx, hb, hml, hown, hts⟩ (mX0_find l D cy s1 s2 s3 s4 s5 Asz Anu Aba Amo Aco p1 r_1 h_2) (cwV 1 hts (gcV_X0_find hbg wm_14_7) rfl rfl rfl kdX0_find ⟨Nat.le_of_ble_eq_true rfl, Nat.le_of_ble_eq_true rfl⟩) (w1 := [(a0, .inr (7, [.ref s0, .ref (hd 0), .ref t0, .ref k0]))] ++ (wX2 cy t0 t1 Xle Xch Xpo Xltr Xfi Xse Xth ++ (wX3 cy k0 k1 k2 Ksz Kcl Kke ++ ([(s0, .inr (5, [.ref s1, .ref s6, .ref s8, .ref s10, .int day, .int lim, .int low, .int hig, .int thr, .long off, .long cre, .long rcp, .long pay]))])))) (w2 := wX4 cy s6 s7 Hsz Hla Hce ++ (wX4 cy s8 s9 Bsz Bla Bce ++ (wX6 cy s10 s11 Tma Tlc Ttc ++ (wX1 cy hd sv nx SL)))) (w' := wX7 cy a0 t0 t1 k0 k1 k2 s0 s1 s2 s3 s4 s5 s6 s7 s8 s9 s10 s11 hd Xle Xch Xpo Xltr Xfi Xse Xth Ksz Kcl Kke Asz Anu Aba Amo Aco Hsz Hla Hce Bsz Bla Bce Tma Tlc Ttc day lim low hig thr off cre rcp pay sv nx SL) rfl rfl hP hK hD hN hS hA (q0 := 0) rfl rfl rfl rfl hl rfl (Nat.le_of_ble_eq_true rfl) dX7_payableOn_8 ⟨Nat.zero_le _, Nat.zero_le _⟩ (fun H locs hP hD hS => ?_)
  refine lv_istore_n (lv' := [(3, .int r_1), (0, .ref a0), (1, .int p1), (2, .int p2)]) hx hb dX7_payableOn_11 rfl hl (by decide) rfl (fun ls hl => ?_)
  refine lv_iload_n hx hb dX7_payableOn_12 rfl (lv_at hl 0 rfl) ?_
  refine lv_if_ge (tgt := 18) hx hb dX7_payableOn_13 (by decide) (fun c_3 => ?_) (fun c_3 => ?_)
  · have hf := x_t c_3 hf
    refine lv_iload_n hx hb dX7_payableOn_18 rfl (lv_at hl 3 rfl) ?_
    obtain ⟨r_4, h_5, hf⟩ := bd1_el hf
    refine x_callSi (As := [.int p2]) (rest := []) ⟨hx, hb, hml, hown, hts⟩ (mX7_isAmount l D cy   p2 r_4 h_5) (va_cwS 1 hts (gcS_X7_isAmount hbg wm_15_10) rfl rfl rfl kdX7_isAmount ⟨Nat.le_of_ble_eq_true rfl, Nat.le_of_ble_eq_true rfl⟩) (w1 := []) (w2 := wX7 cy a0 t0 t1 k0 k1 k2 s0 s1 s2 s3 s4 s5 s6 s7 s8 s9 s10 s11 hd Xle Xch Xpo Xltr Xfi Xse Xth Ksz Kcl Kke Asz Anu Aba Amo Aco Hsz Hla Hce Bsz Bla Bce Tma Tlc Ttc day lim low hig thr off cre rcp pay sv nx SL) (w' := wX7 cy a0 t0 t1 k0 k1 k2 s0 s1 s2 s3 s4 s5 s6 s7 s8 s9 s10 s11 hd Xle Xch Xpo Xltr Xfi Xse Xth Ksz Kcl Kke Asz Anu Aba Amo Aco Hsz Hla Hce Bsz Bla Bce Tma Tlc Ttc day lim low hig thr off cre rcp pay sv nx SL) rfl rfl hP hK hD hN hS hA rfl hl rfl (Nat.le_of_ble_eq_true rfl) dX7_payableOn_19 ⟨Nat.zero_le _, Nat.zero_le _⟩ (fun H locs hP hD hS => ?_)
    refine lv_if_ne (tgt := 28) hx hb dX7_payableOn_22 (by decide) (fun c_6 => ?_) (fun c_6 => ?_)
    · have hf := x_f c_6 hf
      refine lv_aload_n hx hb dX7_payableOn_28 rfl (lv_at hl 1 rfl) ?_
      refine x_get hx hb (C := RX7) (T := TX7) (N := 4) (ci := 7) hts iX7 hown hK hP 0 rfl rfl 0 (by decide) wd0 rfl (.ref s0) rfl dX7_payableOn_29 ?_
      refine lv_iload_n hx hb dX7_payableOn_32 rfl (lv_at hl 0 rfl) ?_
      refine lv_iload_n hx hb dX7_payableOn_33 rfl (lv_at hl 3 rfl) ?_
      obtain ⟨r_7, h_8, hf⟩ := bd1_el hf
      refine x_callVi (As := [.int r_1, .int p2]) (rest := []) ⟨hx, hb, hml, hown, hts⟩ (mX5_firstDayWithFree l D cy s0 s1 s2 s3 s4 s5 s6 s7 s8 s9 s10 s11 Asz Anu Aba Amo Aco Hsz Hla Hce Bsz Bla Bce Tma Tlc Ttc day lim low hig thr off cre rcp pay r_1 p2 r_7 h_8) (cwV 2 hts (gcV_X5_firstDayWithFree hbg wm_15_11) rfl rfl rfl kdX5_firstDayWithFree ⟨Nat.le_of_ble_eq_true rfl, Nat.le_of_ble_eq_true rfl⟩) (w1 := [(a0, .inr (7, [.ref s0, .ref (hd 0), .ref t0, .ref k0]))] ++ (wX2 cy t0 t1 Xle Xch Xpo Xltr Xfi Xse Xth ++ (wX3 cy k0 k1 k2 Ksz Kcl Kke))) (w2 := wX1 cy hd sv nx SL) (w' := wX7 cy a0 t0 t1 k0 k1 k2 s0 s1 s2 s3 s4 s5 s6 s7 s8 s9 s10 s11 hd Xle Xch Xpo Xltr Xfi Xse Xth Ksz Kcl Kke Asz Anu Aba Amo Aco Hsz Hla Hce Bsz Bla Bce Tma Tlc Ttc day lim low hig thr off cre rcp pay sv nx SL) rfl rfl hP hK hD hN hS hA (q0 := 0) rfl rfl rfl rfl hl rfl (Nat.le_of_ble_eq_true rfl) dX7_payableOn_34 ⟨Nat.zero_le _, Nat.zero_le _⟩ (fun H locs hP hD hS => ?_)
      have hf := Option.some.inj hf
      cases hf
      exact x_iret hx hb hr hlocks hK hP hD hS dX7_payableOn_37
    · have hf := x_t c_6 hf
      refine lv_bipush (v := (-2)) hx hb dX7_payableOn_25 (by decide) ?_
      have hf := Option.some.inj hf
      cases hf
      exact x_iret hx hb hr hlocks hK hP hD hS dX7_payableOn_27
  · have hf := x_f c_3 hf
    refine lv_iconst (v := (-1)) hx hb dX7_payableOn_16 (by decide) ?_
    have hf := Option.some.inj hf
    cases hf
    exact x_iret hx hb hr hlocks hK hP hD hS dX7_payableOn_17
theorem kdX7_interestIn : yX7_interestIn.cls = RX7 ∧ yX7_interestIn.cls ≠ "java/lang/invoke/MethodHandle" ∧ yX7_interestIn.cls ≠ "java/lang/invoke/VarHandle" ∧ (parseMethodDescriptor yX7_interestIn.desc).map (fun d => d.parameters.length) = some 2 := by decide +kernel
def rmX7_interestIn : Room := { frames := 3, cells := 0, slots := 0, locals := 77 }
set_option maxHeartbeats 4000000 in
set_option maxRecDepth 100000 in
theorem mX7_interestIn (l : Launch) (D : va_G) (cy : Nat → ClassId) (a0 t0 t1 k0 k1 k2 s0 s1 s2 s3 s4 s5 s6 s7 s8 s9 s10 s11 : Nat) (hd : Nat → Nat) (Xle : Int32) (Xch : Nat → Int32) (Xpo : Int32) (Xltr : Int32) (Xfi : Int32) (Xse : Int32) (Xth : Int32) (Ksz : Int32) (Kcl : Nat → Int32) (Kke : Nat → Int32) (Asz : Int32) (Anu : Nat → Int32) (Aba : Nat → Int32) (Amo : Nat → Int32) (Aco : Nat → Int64) (Hsz : Int32) (Hla : Int32) (Hce : Nat → Int32) (Bsz : Int32) (Bla : Int32) (Bce : Nat → Int32) (Tma : Int32) (Tlc : Int32) (Ttc : Nat → Int32) (day : Int32) (lim : Int32) (low : Int32) (hig : Int32) (thr : Int32) (off : Int64) (cre : Int64) (rcp : Int64) (pay : Int64) (sv : Int32) (nx : Int32) (SL : Nat → XS) (p1 : Int32) (p2 : Int32) (r : Int32) (hf : fX7_interestIn Asz Anu Aba Aco day lim low hig thr p1 p2 = some r) : xMi l D cy yX7_interestIn aX7_interestIn rmX7_interestIn ([.ref a0, .int p1, .int p2] : List Value) (wX7 cy a0 t0 t1 k0 k1 k2 s0 s1 s2 s3 s4 s5 s6 s7 s8 s9 s10 s11 hd Xle Xch Xpo Xltr Xfi Xse Xth Ksz Kcl Kke Asz Anu Aba Amo Aco Hsz Hla Hce Bsz Bla Bce Tma Tlc Ttc day lim low hig thr off cre rcp pay sv nx SL) (wX7 cy a0 t0 t1 k0 k1 k2 s0 s1 s2 s3 s4 s5 s6 s7 s8 s9 s10 s11 hd Xle Xch Xpo Xltr Xfi Xse Xth Ksz Kcl Kke Asz Anu Aba Amo Aco Hsz Hla Hce Bsz Bla Bce Tma Tlc Ttc day lim low hig thr off cre rcp pay sv nx SL) r := by
  intro hz
  refine x_start (Qc := xQi D cy _ r) (cc := cX7_interestIn) (maxL := 4) (ret := (some .int)) (by decide) rfl (Nat.le_of_ble_eq_true rfl) (lv := [(0, .ref a0), (1, .int p1), (2, .int p2)]) rfl ?_
  intro p e s m below meth c ls A hx hb hr hml hown hts hlocks hK hP hD hS hA hN hl
  have hown : s.vm.findClass RX7 = some m.cls := hown
  have hbg : ∀ w ∈ wsL_law, w ∈ aX7_interestIn := fun w h => List.mem_cons_of_mem _ h
  have wd0 : (Cond.fieldLink RX7 10 "ClientMoneyBook" "state" "LClientMoneyBook$State;").before ([.ref a0, .int p1, .int p2] : List Value).toArray s = true := hts _ (List.mem_cons_of_mem _ wm_1_1)
  have wd1 : (Cond.fieldLink RX7 94 "ClientMoneyBook$State" "accounts" "LClientMoneyBook$Accounts;").before ([.ref a0, .int p1, .int p2] : List Value).toArray s = true := hts _ (List.mem_cons_of_mem _ wm_14_6)
  have iX5 : ∀ w ∈ u_ws RX5 TX5 13, w ∈ aX7_interestIn := fun w h => List.mem_cons_of_mem _ (inlX5 w h)
  have iX7 : ∀ w ∈ u_ws RX7 TX7 4, w ∈ aX7_interestIn := fun w h => List.mem_cons_of_mem _ (inlX7 w h)
  unfold fX7_interestIn at hf
  refine lv_aload_n hx hb dX7_interestIn_0 rfl (lv_at hl 0 rfl) ?_
  refine x_get hx hb (C := RX7) (T := TX7) (N := 4) (ci := 7) hts iX7 hown hK hP 0 rfl rfl 0 (by decide) wd0 rfl (.ref s0) rfl dX7_interestIn_1 ?_
  refine x_get hx hb (C := RX5) (T := TX5) (N := 13) (ci := 5) hts iX5 hown hK hP 6 rfl rfl 0 (by decide) wd1 rfl (.ref s1) rfl dX7_interestIn_4 ?_
  refine lv_iload_n hx hb dX7_interestIn_7 rfl (lv_at hl 1 rfl) ?_
  obtain ⟨r_1, h_2, hf⟩ := bd1_el hf
  refine x_callVi (As := [.int p1]) (rest := []) ⟨hx, hb, hml, hown, hts⟩ (mX0_find l D cy s1 s2 s3 s4 s5 Asz Anu Aba Amo Aco p1 r_1 h_2) (cwV 1 hts (gcV_X0_find hbg wm_14_7) rfl rfl rfl kdX0_find ⟨Nat.le_of_ble_eq_true rfl, Nat.le_of_ble_eq_true rfl⟩) (w1 := [(a0, .inr (7, [.ref s0, .ref (hd 0), .ref t0, .ref k0]))] ++ (wX2 cy t0 t1 Xle Xch Xpo Xltr Xfi Xse Xth ++ (wX3 cy k0 k1 k2 Ksz Kcl Kke ++ ([(s0, .inr (5, [.ref s1, .ref s6, .ref s8, .ref s10, .int day, .int lim, .int low, .int hig, .int thr, .long off, .long cre, .long rcp, .long pay]))])))) (w2 := wX4 cy s6 s7 Hsz Hla Hce ++ (wX4 cy s8 s9 Bsz Bla Bce ++ (wX6 cy s10 s11 Tma Tlc Ttc ++ (wX1 cy hd sv nx SL)))) (w' := wX7 cy a0 t0 t1 k0 k1 k2 s0 s1 s2 s3 s4 s5 s6 s7 s8 s9 s10 s11 hd Xle Xch Xpo Xltr Xfi Xse Xth Ksz Kcl Kke Asz Anu Aba Amo Aco Hsz Hla Hce Bsz Bla Bce Tma Tlc Ttc day lim low hig thr off cre rcp pay sv nx SL) rfl rfl hP hK hD hN hS hA (q0 := 0) rfl rfl rfl rfl hl rfl (Nat.le_of_ble_eq_true rfl) dX7_interestIn_8 ⟨Nat.zero_le _, Nat.zero_le _⟩ (fun H locs hP hD hS => ?_)
  refine lv_istore_n (lv' := [(3, .int r_1), (0, .ref a0), (1, .int p1), (2, .int p2)]) hx hb dX7_interestIn_11 rfl hl (by decide) rfl (fun ls hl => ?_)
  refine lv_iload_n hx hb dX7_interestIn_12 rfl (lv_at hl 0 rfl) ?_
  refine lv_if_ge (tgt := 18) hx hb dX7_interestIn_13 (by decide) (fun c_3 => ?_) (fun c_3 => ?_)
  · have hf := x_t c_3 hf
    refine lv_iload_n hx hb dX7_interestIn_18 rfl (lv_at hl 3 rfl) ?_
    refine lv_iconst (v := 1) hx hb dX7_interestIn_19 (by decide) ?_
    refine lv_icmp_lt (tgt := 30) hx hb dX7_interestIn_20 (by decide) (fun c_4 => ?_) (fun c_4 => ?_)
    · have hf := x_t c_4 hf
      refine lv_bipush (v := (-2)) hx hb dX7_interestIn_30 (by decide) ?_
      have hf := Option.some.inj hf
      cases hf
      exact x_iret hx hb hr hlocks hK hP hD hS dX7_interestIn_32
    · have hf := x_f c_4 hf
      refine lv_iload_n hx hb dX7_interestIn_23 rfl (lv_at hl 3 rfl) ?_
      refine lv_sipush (v := 400) hx hb dX7_interestIn_24 (by decide) ?_
      refine lv_icmp_le (tgt := 33) hx hb dX7_interestIn_27 (by decide) (fun c_5 => ?_) (fun c_5 => ?_)
      · have hf := x_t c_5 hf
        refine lv_aload_n hx hb dX7_interestIn_33 rfl (lv_at hl 1 rfl) ?_
        refine x_get hx hb (C := RX7) (T := TX7) (N := 4) (ci := 7) hts iX7 hown hK hP 0 rfl rfl 0 (by decide) wd0 rfl (.ref s0) rfl dX7_interestIn_34 ?_
        refine lv_iload_n hx hb dX7_interestIn_37 rfl (lv_at hl 0 rfl) ?_
        refine lv_iload_n hx hb dX7_interestIn_38 rfl (lv_at hl 3 rfl) ?_
        obtain ⟨r_6, h_7, hf⟩ := bd1_el hf
        refine x_callVi (As := [.int r_1, .int p2]) (rest := []) ⟨hx, hb, hml, hown, hts⟩ (mX5_interestAhead l D cy s0 s1 s2 s3 s4 s5 s6 s7 s8 s9 s10 s11 Asz Anu Aba Amo Aco Hsz Hla Hce Bsz Bla Bce Tma Tlc Ttc day lim low hig thr off cre rcp pay r_1 p2 r_6 h_7) (cwV 2 hts (gcV_X5_interestAhead hbg wm_14_8) rfl rfl rfl kdX5_interestAhead ⟨Nat.le_of_ble_eq_true rfl, Nat.le_of_ble_eq_true rfl⟩) (w1 := [(a0, .inr (7, [.ref s0, .ref (hd 0), .ref t0, .ref k0]))] ++ (wX2 cy t0 t1 Xle Xch Xpo Xltr Xfi Xse Xth ++ (wX3 cy k0 k1 k2 Ksz Kcl Kke))) (w2 := wX1 cy hd sv nx SL) (w' := wX7 cy a0 t0 t1 k0 k1 k2 s0 s1 s2 s3 s4 s5 s6 s7 s8 s9 s10 s11 hd Xle Xch Xpo Xltr Xfi Xse Xth Ksz Kcl Kke Asz Anu Aba Amo Aco Hsz Hla Hce Bsz Bla Bce Tma Tlc Ttc day lim low hig thr off cre rcp pay sv nx SL) rfl rfl hP hK hD hN hS hA (q0 := 0) rfl rfl rfl rfl hl rfl (Nat.le_of_ble_eq_true rfl) dX7_interestIn_39 ⟨Nat.zero_le _, Nat.zero_le _⟩ (fun H locs hP hD hS => ?_)
        have hf := Option.some.inj hf
        cases hf
        exact x_iret hx hb hr hlocks hK hP hD hS dX7_interestIn_42
      · have hf := x_f c_5 hf
        refine lv_bipush (v := (-2)) hx hb dX7_interestIn_30 (by decide) ?_
        have hf := Option.some.inj hf
        cases hf
        exact x_iret hx hb hr hlocks hK hP hD hS dX7_interestIn_32
  · have hf := x_f c_3 hf
    refine lv_iconst (v := (-1)) hx hb dX7_interestIn_16 (by decide) ?_
    have hf := Option.some.inj hf
    cases hf
    exact x_iret hx hb hr hlocks hK hP hD hS dX7_interestIn_17
