theorem kdX7_aboutRow : yX7_aboutRow.cls ≠ "java/lang/invoke/MethodHandle" ∧ yX7_aboutRow.cls ≠ "java/lang/invoke/VarHandle" ∧ (parseMethodDescriptor yX7_aboutRow.desc).map (fun d => d.parameters.length) = some 3 := by decide +kernel
def rmX7_aboutRow : Room := { frames := 2, cells := 0, slots := 0, locals := 44 }
set_option maxHeartbeats 4000000 in
set_option maxRecDepth 100000 in
theorem mX7_aboutRow (l : Launch) (D : va_G) (cy : Nat → ClassId) (a0 a1 : Nat) (sz : Int32) (la : Int32) (ce : Nat → Int32) (p2 : Int32) (p3 : Int32) (r : Int32) (hf : fX7_aboutRow sz ce p2 p3 = some r) : xMi l D cy yX7_aboutRow aX7_aboutRow rmX7_aboutRow ([.ref a0, .int p2, .int p3] : List Value) (wX4 cy a0 a1 sz la ce) (wX4 cy a0 a1 sz la ce) r := by
  intro hz
  refine x_start (Qc := xQi D cy _ r) (cc := cX7_aboutRow) (maxL := 4) (ret := (some .int)) (by decide) rfl (Nat.le_of_ble_eq_true rfl) (lv := [(0, .ref a0), (1, .int p2), (2, .int p3)]) rfl ?_
  intro p e s m below meth c ls A hx hb hr hml hown hts hlocks hK hP hD hS hA hN hl
  have hown : s.vm.findClass RX7 = some m.cls := hown
  have hbg : ∀ w ∈ wsL_law, w ∈ aX7_aboutRow := fun w h => List.mem_cons_of_mem _ h
  unfold fX7_aboutRow at hf
  refine lv_aload_n hx hb dX7_aboutRow_0 rfl (lv_at hl 0 rfl) ?_
  refine lv_iload_n hx hb dX7_aboutRow_1 rfl (lv_at hl 1 rfl) ?_
  obtain ⟨r_1, h_2, hf⟩ := bd1_el hf
  refine x_callVi (As := [.int p2]) (rest := []) ⟨hx, hb, hml, hown, hts⟩ (mX4_find l D cy a0 a1 sz la ce p2 r_1 h_2) (cwV 1 hts (gcV_X4_find hbg wm_29_22) rfl rfl rfl kdX4_find ⟨Nat.le_of_ble_eq_true rfl, Nat.le_of_ble_eq_true rfl⟩) (w1 := []) (w2 := []) (w' := wX4 cy a0 a1 sz la ce) (List.append_nil _) (List.append_nil _) hP hK hD hN hS hA (q0 := 0) rfl rfl rfl rfl hl rfl (Nat.le_of_ble_eq_true rfl) dX7_aboutRow_2 ⟨Nat.zero_le _, Nat.zero_le _⟩ (fun H locs hP hD hS => ?_)
  refine lv_istore_n (lv' := [(3, .int r_1), (0, .ref a0), (1, .int p2), (2, .int p3)]) hx hb dX7_aboutRow_5 rfl hl (by decide) rfl (fun ls hl => ?_)
  refine lv_iload_n hx hb dX7_aboutRow_6 rfl (lv_at hl 0 rfl) ?_
  refine lv_if_ge (tgt := 12) hx hb dX7_aboutRow_7 (by decide) (fun c_3 => ?_) (fun c_3 => ?_)
  · have hf := x_t c_3 hf
    refine lv_iload_n hx hb dX7_aboutRow_12 rfl (lv_at hl 3 rfl) ?_
    refine lv_if_lt (tgt := 21) hx hb dX7_aboutRow_13 (by decide) (fun c_4 => ?_) (fun c_4 => ?_)
    · have hf := x_t c_4 hf
      refine lv_bipush (v := (-2)) hx hb dX7_aboutRow_21 (by decide) ?_
      have hf := Option.some.inj hf
      cases hf
      exact x_iret hx hb hr hlocks hK hP hD hS dX7_aboutRow_23
    · have hf := x_f c_4 hf
      refine lv_iload_n hx hb dX7_aboutRow_16 rfl (lv_at hl 3 rfl) ?_
      refine lv_iconst (v := 2) hx hb dX7_aboutRow_17 (by decide) ?_
      refine lv_icmp_le (tgt := 24) hx hb dX7_aboutRow_18 (by decide) (fun c_5 => ?_) (fun c_5 => ?_)
      · have hf := x_t c_5 hf
        refine lv_aload_n hx hb dX7_aboutRow_24 rfl (lv_at hl 1 rfl) ?_
        refine lv_iload_n hx hb dX7_aboutRow_25 rfl (lv_at hl 0 rfl) ?_
        refine lv_iconst (v := 1) hx hb dX7_aboutRow_26 (by decide) ?_
        refine lv_iload_n hx hb dX7_aboutRow_27 rfl (lv_at hl 3 rfl) ?_
        refine lv_iadd hx hb dX7_aboutRow_28 ?_
        obtain ⟨r_6, h_7, hf⟩ := bd1_el hf
        refine x_callVi (As := [.int r_1, .int (1 + p3)]) (rest := []) ⟨hx, hb, hml, hown, hts⟩ (mX4_get l D cy a0 a1 sz la ce r_1 (1 + p3) r_6 h_7) (cwV 2 hts (gcV_X4_get hbg wm_29_23) rfl rfl rfl kdX4_get ⟨Nat.le_of_ble_eq_true rfl, Nat.le_of_ble_eq_true rfl⟩) (w1 := []) (w2 := []) (w' := wX4 cy a0 a1 sz la ce) (List.append_nil _) (List.append_nil _) hP hK hD hN hS hA (q0 := 0) rfl rfl rfl rfl hl rfl (Nat.le_of_ble_eq_true rfl) dX7_aboutRow_29 ⟨Nat.zero_le _, Nat.zero_le _⟩ (fun H locs hP hD hS => ?_)
        have hf := Option.some.inj hf
        cases hf
        exact x_iret hx hb hr hlocks hK hP hD hS dX7_aboutRow_32
      · have hf := x_f c_5 hf
        refine lv_bipush (v := (-2)) hx hb dX7_aboutRow_21 (by decide) ?_
        have hf := Option.some.inj hf
        cases hf
        exact x_iret hx hb hr hlocks hK hP hD hS dX7_aboutRow_23
  · have hf := x_f c_3 hf
    refine lv_iconst (v := (-1)) hx hb dX7_aboutRow_10 (by decide) ?_
    have hf := Option.some.inj hf
    cases hf
    exact x_iret hx hb hr hlocks hK hP hD hS dX7_aboutRow_11
theorem kdX7_holdOf : yX7_holdOf.cls = RX7 ∧ yX7_holdOf.cls ≠ "java/lang/invoke/MethodHandle" ∧ yX7_holdOf.cls ≠ "java/lang/invoke/VarHandle" ∧ (parseMethodDescriptor yX7_holdOf.desc).map (fun d => d.parameters.length) = some 2 := by decide +kernel
def rmX7_holdOf : Room := { frames := 3, cells := 0, slots := 0, locals := 67 }
set_option maxHeartbeats 4000000 in
set_option maxRecDepth 100000 in
theorem mX7_holdOf (l : Launch) (D : va_G) (cy : Nat → ClassId) (a0 t0 t1 k0 k1 k2 s0 s1 s2 s3 s4 s5 s6 s7 s8 s9 s10 s11 : Nat) (hd : Nat → Nat) (Xle : Int32) (Xch : Nat → Int32) (Xpo : Int32) (Xltr : Int32) (Xfi : Int32) (Xse : Int32) (Xth : Int32) (Ksz : Int32) (Kcl : Nat → Int32) (Kke : Nat → Int32) (Asz : Int32) (Anu : Nat → Int32) (Aba : Nat → Int32) (Amo : Nat → Int32) (Aco : Nat → Int64) (Hsz : Int32) (Hla : Int32) (Hce : Nat → Int32) (Bsz : Int32) (Bla : Int32) (Bce : Nat → Int32) (Tma : Int32) (Tlc : Int32) (Ttc : Nat → Int32) (day : Int32) (lim : Int32) (low : Int32) (hig : Int32) (thr : Int32) (off : Int64) (cre : Int64) (rcp : Int64) (pay : Int64) (sv : Int32) (nx : Int32) (SL : Nat → XS) (p1 : Int32) (p2 : Int32) (r : Int32) (hf : fX7_holdOf Hsz Hce p1 p2 = some r) : xMi l D cy yX7_holdOf aX7_holdOf rmX7_holdOf ([.ref a0, .int p1, .int p2] : List Value) (wX7 cy a0 t0 t1 k0 k1 k2 s0 s1 s2 s3 s4 s5 s6 s7 s8 s9 s10 s11 hd Xle Xch Xpo Xltr Xfi Xse Xth Ksz Kcl Kke Asz Anu Aba Amo Aco Hsz Hla Hce Bsz Bla Bce Tma Tlc Ttc day lim low hig thr off cre rcp pay sv nx SL) (wX7 cy a0 t0 t1 k0 k1 k2 s0 s1 s2 s3 s4 s5 s6 s7 s8 s9 s10 s11 hd Xle Xch Xpo Xltr Xfi Xse Xth Ksz Kcl Kke Asz Anu Aba Amo Aco Hsz Hla Hce Bsz Bla Bce Tma Tlc Ttc day lim low hig thr off cre rcp pay sv nx SL) r := by
  intro hz
  refine x_start (Qc := xQi D cy _ r) (cc := cX7_holdOf) (maxL := 3) (ret := (some .int)) (by decide) rfl (Nat.le_of_ble_eq_true rfl) (lv := [(0, .ref a0), (1, .int p1), (2, .int p2)]) rfl ?_
  intro p e s m below meth c ls A hx hb hr hml hown hts hlocks hK hP hD hS hA hN hl
  have hown : s.vm.findClass RX7 = some m.cls := hown
  have hbg : ∀ w ∈ wsL_law, w ∈ aX7_holdOf := fun w h => List.mem_cons_of_mem _ h
  have wd0 : (Cond.fieldLink RX7 10 "ClientMoneyBook" "state" "LClientMoneyBook$State;").before ([.ref a0, .int p1, .int p2] : List Value).toArray s = true := hts _ (List.mem_cons_of_mem _ wm_0_15)
  have wd1 : (Cond.fieldLink RX7 116 "ClientMoneyBook$State" "holds" "LClientMoneyBook$Rows;").before ([.ref a0, .int p1, .int p2] : List Value).toArray s = true := hts _ (List.mem_cons_of_mem _ wm_29_18)
  have iX5 : ∀ w ∈ u_ws RX5 TX5 13, w ∈ aX7_holdOf := fun w h => List.mem_cons_of_mem _ (inlX5 w h)
  have iX7 : ∀ w ∈ u_ws RX7 TX7 4, w ∈ aX7_holdOf := fun w h => List.mem_cons_of_mem _ (inlX7 w h)
  unfold fX7_holdOf at hf
  refine lv_aload_n hx hb dX7_holdOf_0 rfl (lv_at hl 0 rfl) ?_
  refine x_get hx hb (C := RX7) (T := TX7) (N := 4) (ci := 7) hts iX7 hown hK hP 0 rfl rfl 0 (by decide) wd0 rfl (.ref s0) rfl dX7_holdOf_1 ?_
  refine x_get hx hb (C := RX5) (T := TX5) (N := 13) (ci := 5) hts iX5 hown hK hP 6 rfl rfl 1 (by decide) wd1 rfl (.ref s6) rfl dX7_holdOf_4 ?_
  refine lv_iload_n hx hb dX7_holdOf_7 rfl (lv_at hl 1 rfl) ?_
  refine lv_iload_n hx hb dX7_holdOf_8 rfl (lv_at hl 2 rfl) ?_
  obtain ⟨r_1, h_2, hf⟩ := bd1_el hf
  refine x_callSi (As := [.ref s6, .int p1, .int p2]) (rest := []) ⟨hx, hb, hml, hown, hts⟩ (mX7_aboutRow l D cy s6 s7 Hsz Hla Hce p1 p2 r_1 h_2) (va_cwS 3 hts (gcS_X7_aboutRow hbg wm_29_19) rfl rfl rfl kdX7_aboutRow ⟨Nat.le_of_ble_eq_true rfl, Nat.le_of_ble_eq_true rfl⟩) (w1 := [(a0, .inr (7, [.ref s0, .ref (hd 0), .ref t0, .ref k0]))] ++ (wX2 cy t0 t1 Xle Xch Xpo Xltr Xfi Xse Xth ++ (wX3 cy k0 k1 k2 Ksz Kcl Kke ++ ([(s0, .inr (5, [.ref s1, .ref s6, .ref s8, .ref s10, .int day, .int lim, .int low, .int hig, .int thr, .long off, .long cre, .long rcp, .long pay]))] ++ (wX0 cy s1 s2 s3 s4 s5 Asz Anu Aba Amo Aco))))) (w2 := wX4 cy s8 s9 Bsz Bla Bce ++ (wX6 cy s10 s11 Tma Tlc Ttc ++ (wX1 cy hd sv nx SL))) (w' := wX7 cy a0 t0 t1 k0 k1 k2 s0 s1 s2 s3 s4 s5 s6 s7 s8 s9 s10 s11 hd Xle Xch Xpo Xltr Xfi Xse Xth Ksz Kcl Kke Asz Anu Aba Amo Aco Hsz Hla Hce Bsz Bla Bce Tma Tlc Ttc day lim low hig thr off cre rcp pay sv nx SL) rfl rfl hP hK hD hN hS hA rfl hl rfl (Nat.le_of_ble_eq_true rfl) dX7_holdOf_9 ⟨Nat.zero_le _, Nat.zero_le _⟩ (fun H locs hP hD hS => ?_)
  have hf := Option.some.inj hf
  cases hf
  exact x_iret hx hb hr hlocks hK hP hD hS dX7_holdOf_12
theorem kdX7_billOf : yX7_billOf.cls = RX7 ∧ yX7_billOf.cls ≠ "java/lang/invoke/MethodHandle" ∧ yX7_billOf.cls ≠ "java/lang/invoke/VarHandle" ∧ (parseMethodDescriptor yX7_billOf.desc).map (fun d => d.parameters.length) = some 2 := by decide +kernel
def rmX7_billOf : Room := { frames := 3, cells := 0, slots := 0, locals := 67 }
set_option maxHeartbeats 4000000 in
set_option maxRecDepth 100000 in
theorem mX7_billOf (l : Launch) (D : va_G) (cy : Nat → ClassId) (a0 t0 t1 k0 k1 k2 s0 s1 s2 s3 s4 s5 s6 s7 s8 s9 s10 s11 : Nat) (hd : Nat → Nat) (Xle : Int32) (Xch : Nat → Int32) (Xpo : Int32) (Xltr : Int32) (Xfi : Int32) (Xse : Int32) (Xth : Int32) (Ksz : Int32) (Kcl : Nat → Int32) (Kke : Nat → Int32) (Asz : Int32) (Anu : Nat → Int32) (Aba : Nat → Int32) (Amo : Nat → Int32) (Aco : Nat → Int64) (Hsz : Int32) (Hla : Int32) (Hce : Nat → Int32) (Bsz : Int32) (Bla : Int32) (Bce : Nat → Int32) (Tma : Int32) (Tlc : Int32) (Ttc : Nat → Int32) (day : Int32) (lim : Int32) (low : Int32) (hig : Int32) (thr : Int32) (off : Int64) (cre : Int64) (rcp : Int64) (pay : Int64) (sv : Int32) (nx : Int32) (SL : Nat → XS) (p1 : Int32) (p2 : Int32) (r : Int32) (hf : fX7_billOf Bsz Bce p1 p2 = some r) : xMi l D cy yX7_billOf aX7_billOf rmX7_billOf ([.ref a0, .int p1, .int p2] : List Value) (wX7 cy a0 t0 t1 k0 k1 k2 s0 s1 s2 s3 s4 s5 s6 s7 s8 s9 s10 s11 hd Xle Xch Xpo Xltr Xfi Xse Xth Ksz Kcl Kke Asz Anu Aba Amo Aco Hsz Hla Hce Bsz Bla Bce Tma Tlc Ttc day lim low hig thr off cre rcp pay sv nx SL) (wX7 cy a0 t0 t1 k0 k1 k2 s0 s1 s2 s3 s4 s5 s6 s7 s8 s9 s10 s11 hd Xle Xch Xpo Xltr Xfi Xse Xth Ksz Kcl Kke Asz Anu Aba Amo Aco Hsz Hla Hce Bsz Bla Bce Tma Tlc Ttc day lim low hig thr off cre rcp pay sv nx SL) r := by
  intro hz
  refine x_start (Qc := xQi D cy _ r) (cc := cX7_billOf) (maxL := 3) (ret := (some .int)) (by decide) rfl (Nat.le_of_ble_eq_true rfl) (lv := [(0, .ref a0), (1, .int p1), (2, .int p2)]) rfl ?_
  intro p e s m below meth c ls A hx hb hr hml hown hts hlocks hK hP hD hS hA hN hl
  have hown : s.vm.findClass RX7 = some m.cls := hown
  have hbg : ∀ w ∈ wsL_law, w ∈ aX7_billOf := fun w h => List.mem_cons_of_mem _ h
  have wd0 : (Cond.fieldLink RX7 10 "ClientMoneyBook" "state" "LClientMoneyBook$State;").before ([.ref a0, .int p1, .int p2] : List Value).toArray s = true := hts _ (List.mem_cons_of_mem _ wm_0_15)
  have wd1 : (Cond.fieldLink RX7 124 "ClientMoneyBook$State" "bills" "LClientMoneyBook$Rows;").before ([.ref a0, .int p1, .int p2] : List Value).toArray s = true := hts _ (List.mem_cons_of_mem _ wm_30_8)
  have iX5 : ∀ w ∈ u_ws RX5 TX5 13, w ∈ aX7_billOf := fun w h => List.mem_cons_of_mem _ (inlX5 w h)
  have iX7 : ∀ w ∈ u_ws RX7 TX7 4, w ∈ aX7_billOf := fun w h => List.mem_cons_of_mem _ (inlX7 w h)
  unfold fX7_billOf at hf
  refine lv_aload_n hx hb dX7_billOf_0 rfl (lv_at hl 0 rfl) ?_
  refine x_get hx hb (C := RX7) (T := TX7) (N := 4) (ci := 7) hts iX7 hown hK hP 0 rfl rfl 0 (by decide) wd0 rfl (.ref s0) rfl dX7_billOf_1 ?_
  refine x_get hx hb (C := RX5) (T := TX5) (N := 13) (ci := 5) hts iX5 hown hK hP 6 rfl rfl 2 (by decide) wd1 rfl (.ref s8) rfl dX7_billOf_4 ?_
  refine lv_iload_n hx hb dX7_billOf_7 rfl (lv_at hl 1 rfl) ?_
  refine lv_iload_n hx hb dX7_billOf_8 rfl (lv_at hl 2 rfl) ?_
  obtain ⟨r_1, h_2, hf⟩ := bd1_el hf
  refine x_callSi (As := [.ref s8, .int p1, .int p2]) (rest := []) ⟨hx, hb, hml, hown, hts⟩ (mX7_aboutRow l D cy s8 s9 Bsz Bla Bce p1 p2 r_1 h_2) (va_cwS 3 hts (gcS_X7_aboutRow hbg wm_29_19) rfl rfl rfl kdX7_aboutRow ⟨Nat.le_of_ble_eq_true rfl, Nat.le_of_ble_eq_true rfl⟩) (w1 := [(a0, .inr (7, [.ref s0, .ref (hd 0), .ref t0, .ref k0]))] ++ (wX2 cy t0 t1 Xle Xch Xpo Xltr Xfi Xse Xth ++ (wX3 cy k0 k1 k2 Ksz Kcl Kke ++ ([(s0, .inr (5, [.ref s1, .ref s6, .ref s8, .ref s10, .int day, .int lim, .int low, .int hig, .int thr, .long off, .long cre, .long rcp, .long pay]))] ++ (wX0 cy s1 s2 s3 s4 s5 Asz Anu Aba Amo Aco ++ (wX4 cy s6 s7 Hsz Hla Hce)))))) (w2 := wX6 cy s10 s11 Tma Tlc Ttc ++ (wX1 cy hd sv nx SL)) (w' := wX7 cy a0 t0 t1 k0 k1 k2 s0 s1 s2 s3 s4 s5 s6 s7 s8 s9 s10 s11 hd Xle Xch Xpo Xltr Xfi Xse Xth Ksz Kcl Kke Asz Anu Aba Amo Aco Hsz Hla Hce Bsz Bla Bce Tma Tlc Ttc day lim low hig thr off cre rcp pay sv nx SL) rfl rfl hP hK hD hN hS hA rfl hl rfl (Nat.le_of_ble_eq_true rfl) dX7_billOf_9 ⟨Nat.zero_le _, Nat.zero_le _⟩ (fun H locs hP hD hS => ?_)
  have hf := Option.some.inj hf
  cases hf
  exact x_iret hx hb hr hlocks hK hP hD hS dX7_billOf_12
theorem kdX7_entries : yX7_entries.cls = RX7 ∧ yX7_entries.cls ≠ "java/lang/invoke/MethodHandle" ∧ yX7_entries.cls ≠ "java/lang/invoke/VarHandle" ∧ (parseMethodDescriptor yX7_entries.desc).map (fun d => d.parameters.length) = some 0 := by decide +kernel
def rmX7_entries : Room := { frames := 0, cells := 0, slots := 0, locals := 0 }
set_option maxHeartbeats 4000000 in
set_option maxRecDepth 100000 in
theorem mX7_entries (l : Launch) (D : va_G) (cy : Nat → ClassId) (a0 t0 t1 k0 k1 k2 s0 s1 s2 s3 s4 s5 s6 s7 s8 s9 s10 s11 : Nat) (hd : Nat → Nat) (Xle : Int32) (Xch : Nat → Int32) (Xpo : Int32) (Xltr : Int32) (Xfi : Int32) (Xse : Int32) (Xth : Int32) (Ksz : Int32) (Kcl : Nat → Int32) (Kke : Nat → Int32) (Asz : Int32) (Anu : Nat → Int32) (Aba : Nat → Int32) (Amo : Nat → Int32) (Aco : Nat → Int64) (Hsz : Int32) (Hla : Int32) (Hce : Nat → Int32) (Bsz : Int32) (Bla : Int32) (Bce : Nat → Int32) (Tma : Int32) (Tlc : Int32) (Ttc : Nat → Int32) (day : Int32) (lim : Int32) (low : Int32) (hig : Int32) (thr : Int32) (off : Int64) (cre : Int64) (rcp : Int64) (pay : Int64) (sv : Int32) (nx : Int32) (SL : Nat → XS)  (r : Int32) (hf : fX7_entries Tma = some r) : xMi l D cy yX7_entries aX7_entries rmX7_entries ([.ref a0] : List Value) (wX7 cy a0 t0 t1 k0 k1 k2 s0 s1 s2 s3 s4 s5 s6 s7 s8 s9 s10 s11 hd Xle Xch Xpo Xltr Xfi Xse Xth Ksz Kcl Kke Asz Anu Aba Amo Aco Hsz Hla Hce Bsz Bla Bce Tma Tlc Ttc day lim low hig thr off cre rcp pay sv nx SL) (wX7 cy a0 t0 t1 k0 k1 k2 s0 s1 s2 s3 s4 s5 s6 s7 s8 s9 s10 s11 hd Xle Xch Xpo Xltr Xfi Xse Xth Ksz Kcl Kke Asz Anu Aba Amo Aco Hsz Hla Hce Bsz Bla Bce Tma Tlc Ttc day lim low hig thr off cre rcp pay sv nx SL) r := by
  intro hz
  refine x_start (Qc := xQi D cy _ r) (cc := cX7_entries) (maxL := 1) (ret := (some .int)) (by decide) rfl (Nat.le_of_ble_eq_true rfl) (lv := [(0, .ref a0)]) rfl ?_
  intro p e s m below meth c ls A hx hb hr hml hown hts hlocks hK hP hD hS hA hN hl
  have hown : s.vm.findClass RX7 = some m.cls := hown
  have hbg : ∀ w ∈ wsL_law, w ∈ aX7_entries := fun w h => List.mem_cons_of_mem _ h
  have wd0 : (Cond.fieldLink RX7 10 "ClientMoneyBook" "state" "LClientMoneyBook$State;").before ([.ref a0] : List Value).toArray s = true := hts _ (List.mem_cons_of_mem _ wm_0_15)
  have wd1 : (Cond.fieldLink RX7 127 "ClientMoneyBook$State" "trail" "LClientMoneyBook$Trail;").before ([.ref a0] : List Value).toArray s = true := hts _ (List.mem_cons_of_mem _ wm_30_17)
  have wd2 : (Cond.fieldLink RX7 131 "ClientMoneyBook$Trail" "made" "I").before ([.ref a0] : List Value).toArray s = true := hts _ (List.mem_cons_of_mem _ wm_30_18)
  have iX5 : ∀ w ∈ u_ws RX5 TX5 13, w ∈ aX7_entries := fun w h => List.mem_cons_of_mem _ (inlX5 w h)
  have iX6 : ∀ w ∈ u_ws RX6 TX6 3, w ∈ aX7_entries := fun w h => List.mem_cons_of_mem _ (inlX6 w h)
  have iX7 : ∀ w ∈ u_ws RX7 TX7 4, w ∈ aX7_entries := fun w h => List.mem_cons_of_mem _ (inlX7 w h)
  unfold fX7_entries at hf
  refine lv_aload_n hx hb dX7_entries_0 rfl (lv_at hl 0 rfl) ?_
  refine x_get hx hb (C := RX7) (T := TX7) (N := 4) (ci := 7) hts iX7 hown hK hP 0 rfl rfl 0 (by decide) wd0 rfl (.ref s0) rfl dX7_entries_1 ?_
  refine x_get hx hb (C := RX5) (T := TX5) (N := 13) (ci := 5) hts iX5 hown hK hP 6 rfl rfl 3 (by decide) wd1 rfl (.ref s10) rfl dX7_entries_4 ?_
  refine x_get hx hb (C := RX6) (T := TX6) (N := 3) (ci := 6) hts iX6 hown hK hP 16 rfl rfl 0 (by decide) wd2 rfl (.int Tma) rfl dX7_entries_7 ?_
  have hf := Option.some.inj hf
  cases hf
  exact x_iret hx hb hr hlocks hK hP hD hS dX7_entries_10
theorem kdX7_entry : yX7_entry.cls = RX7 ∧ yX7_entry.cls ≠ "java/lang/invoke/MethodHandle" ∧ yX7_entry.cls ≠ "java/lang/invoke/VarHandle" ∧ (parseMethodDescriptor yX7_entry.desc).map (fun d => d.parameters.length) = some 2 := by decide +kernel
def rmX7_entry : Room := { frames := 2, cells := 0, slots := 0, locals := 44 }
set_option maxHeartbeats 4000000 in
set_option maxRecDepth 100000 in
theorem mX7_entry (l : Launch) (D : va_G) (cy : Nat → ClassId) (a0 t0 t1 k0 k1 k2 s0 s1 s2 s3 s4 s5 s6 s7 s8 s9 s10 s11 : Nat) (hd : Nat → Nat) (Xle : Int32) (Xch : Nat → Int32) (Xpo : Int32) (Xltr : Int32) (Xfi : Int32) (Xse : Int32) (Xth : Int32) (Ksz : Int32) (Kcl : Nat → Int32) (Kke : Nat → Int32) (Asz : Int32) (Anu : Nat → Int32) (Aba : Nat → Int32) (Amo : Nat → Int32) (Aco : Nat → Int64) (Hsz : Int32) (Hla : Int32) (Hce : Nat → Int32) (Bsz : Int32) (Bla : Int32) (Bce : Nat → Int32) (Tma : Int32) (Tlc : Int32) (Ttc : Nat → Int32) (day : Int32) (lim : Int32) (low : Int32) (hig : Int32) (thr : Int32) (off : Int64) (cre : Int64) (rcp : Int64) (pay : Int64) (sv : Int32) (nx : Int32) (SL : Nat → XS) (p1 : Int32) (p2 : Int32) (r : Int32) (hf : fX7_entry Tma Ttc p1 p2 = some r) : xMi l D cy yX7_entry aX7_entry rmX7_entry ([.ref a0, .int p1, .int p2] : List Value) (wX7 cy a0 t0 t1 k0 k1 k2 s0 s1 s2 s3 s4 s5 s6 s7 s8 s9 s10 s11 hd Xle Xch Xpo Xltr Xfi Xse Xth Ksz Kcl Kke Asz Anu Aba Amo Aco Hsz Hla Hce Bsz Bla Bce Tma Tlc Ttc day lim low hig thr off cre rcp pay sv nx SL) (wX7 cy a0 t0 t1 k0 k1 k2 s0 s1 s2 s3 s4 s5 s6 s7 s8 s9 s10 s11 hd Xle Xch Xpo Xltr Xfi Xse Xth Ksz Kcl Kke Asz Anu Aba Amo Aco Hsz Hla Hce Bsz Bla Bce Tma Tlc Ttc day lim low hig thr off cre rcp pay sv nx SL) r := by
  intro hz
  refine x_start (Qc := xQi D cy _ r) (cc := cX7_entry) (maxL := 3) (ret := (some .int)) (by decide) rfl (Nat.le_of_ble_eq_true rfl) (lv := [(0, .ref a0), (1, .int p1), (2, .int p2)]) rfl ?_
  intro p e s m below meth c ls A hx hb hr hml hown hts hlocks hK hP hD hS hA hN hl
  have hown : s.vm.findClass RX7 = some m.cls := hown
  have hbg : ∀ w ∈ wsL_law, w ∈ aX7_entry := fun w h => List.mem_cons_of_mem _ h
  have wd0 : (Cond.fieldLink RX7 10 "ClientMoneyBook" "state" "LClientMoneyBook$State;").before ([.ref a0, .int p1, .int p2] : List Value).toArray s = true := hts _ (List.mem_cons_of_mem _ wm_0_15)
  have wd1 : (Cond.fieldLink RX7 127 "ClientMoneyBook$State" "trail" "LClientMoneyBook$Trail;").before ([.ref a0, .int p1, .int p2] : List Value).toArray s = true := hts _ (List.mem_cons_of_mem _ wm_30_17)
  have iX5 : ∀ w ∈ u_ws RX5 TX5 13, w ∈ aX7_entry := fun w h => List.mem_cons_of_mem _ (inlX5 w h)
  have iX7 : ∀ w ∈ u_ws RX7 TX7 4, w ∈ aX7_entry := fun w h => List.mem_cons_of_mem _ (inlX7 w h)
  unfold fX7_entry at hf
  refine lv_aload_n hx hb dX7_entry_0 rfl (lv_at hl 0 rfl) ?_
  refine x_get hx hb (C := RX7) (T := TX7) (N := 4) (ci := 7) hts iX7 hown hK hP 0 rfl rfl 0 (by decide) wd0 rfl (.ref s0) rfl dX7_entry_1 ?_
  refine x_get hx hb (C := RX5) (T := TX5) (N := 13) (ci := 5) hts iX5 hown hK hP 6 rfl rfl 3 (by decide) wd1 rfl (.ref s10) rfl dX7_entry_4 ?_
  refine lv_iload_n hx hb dX7_entry_7 rfl (lv_at hl 1 rfl) ?_
  obtain ⟨r_1, h_2, hf⟩ := bd1_el hf
  refine x_callVi (As := [.int p1]) (rest := []) ⟨hx, hb, hml, hown, hts⟩ (mX6_keeps l D cy s10 s11 Tma Tlc Ttc p1 r_1 h_2) (cwV 1 hts (gcV_X6_keeps hbg wm_31_3) rfl rfl rfl kdX6_keeps ⟨Nat.le_of_ble_eq_true rfl, Nat.le_of_ble_eq_true rfl⟩) (w1 := [(a0, .inr (7, [.ref s0, .ref (hd 0), .ref t0, .ref k0]))] ++ (wX2 cy t0 t1 Xle Xch Xpo Xltr Xfi Xse Xth ++ (wX3 cy k0 k1 k2 Ksz Kcl Kke ++ ([(s0, .inr (5, [.ref s1, .ref s6, .ref s8, .ref s10, .int day, .int lim, .int low, .int hig, .int thr, .long off, .long cre, .long rcp, .long pay]))] ++ (wX0 cy s1 s2 s3 s4 s5 Asz Anu Aba Amo Aco ++ (wX4 cy s6 s7 Hsz Hla Hce ++ (wX4 cy s8 s9 Bsz Bla Bce))))))) (w2 := wX1 cy hd sv nx SL) (w' := wX7 cy a0 t0 t1 k0 k1 k2 s0 s1 s2 s3 s4 s5 s6 s7 s8 s9 s10 s11 hd Xle Xch Xpo Xltr Xfi Xse Xth Ksz Kcl Kke Asz Anu Aba Amo Aco Hsz Hla Hce Bsz Bla Bce Tma Tlc Ttc day lim low hig thr off cre rcp pay sv nx SL) rfl rfl hP hK hD hN hS hA (q0 := 0) rfl rfl rfl rfl hl rfl (Nat.le_of_ble_eq_true rfl) dX7_entry_8 ⟨Nat.zero_le _, Nat.zero_le _⟩ (fun H locs hP hD hS => ?_)
  refine lv_if_ne (tgt := 16) hx hb dX7_entry_11 (by decide) (fun c_3 => ?_) (fun c_3 => ?_)
  · have hf := x_f c_3 hf
    refine lv_iload_n hx hb dX7_entry_16 rfl (lv_at hl 2 rfl) ?_
    refine lv_if_lt (tgt := 26) hx hb dX7_entry_17 (by decide) (fun c_4 => ?_) (fun c_4 => ?_)
    · have hf := x_t c_4 hf
      refine lv_bipush (v := (-2)) hx hb dX7_entry_26 (by decide) ?_
      have hf := Option.some.inj hf
      cases hf
      exact x_iret hx hb hr hlocks hK hP hD hS dX7_entry_28
    · have hf := x_f c_4 hf
      refine lv_iload_n hx hb dX7_entry_20 rfl (lv_at hl 2 rfl) ?_
      refine lv_bipush (v := 6) hx hb dX7_entry_21 (by decide) ?_
      refine lv_icmp_le (tgt := 29) hx hb dX7_entry_23 (by decide) (fun c_5 => ?_) (fun c_5 => ?_)
      · have hf := x_t c_5 hf
        refine lv_aload_n hx hb dX7_entry_29 rfl (lv_at hl 0 rfl) ?_
        refine x_get hx hb (C := RX7) (T := TX7) (N := 4) (ci := 7) hts iX7 hown hK hP 0 rfl rfl 0 (by decide) wd0 rfl (.ref s0) rfl dX7_entry_30 ?_
        refine x_get hx hb (C := RX5) (T := TX5) (N := 13) (ci := 5) hts iX5 hown hK hP 6 rfl rfl 3 (by decide) wd1 rfl (.ref s10) rfl dX7_entry_33 ?_
        refine lv_iload_n hx hb dX7_entry_36 rfl (lv_at hl 1 rfl) ?_
        refine lv_iload_n hx hb dX7_entry_37 rfl (lv_at hl 2 rfl) ?_
        obtain ⟨r_6, h_7, hf⟩ := bd1_el hf
        refine x_callVi (As := [.int p1, .int p2]) (rest := []) ⟨hx, hb, hml, hown, hts⟩ (mX6_get l D cy s10 s11 Tma Tlc Ttc p1 p2 r_6 h_7) (cwV 2 hts (gcV_X6_get hbg wm_31_4) rfl rfl rfl kdX6_get ⟨Nat.le_of_ble_eq_true rfl, Nat.le_of_ble_eq_true rfl⟩) (w1 := [(a0, .inr (7, [.ref s0, .ref (hd 0), .ref t0, .ref k0]))] ++ (wX2 cy t0 t1 Xle Xch Xpo Xltr Xfi Xse Xth ++ (wX3 cy k0 k1 k2 Ksz Kcl Kke ++ ([(s0, .inr (5, [.ref s1, .ref s6, .ref s8, .ref s10, .int day, .int lim, .int low, .int hig, .int thr, .long off, .long cre, .long rcp, .long pay]))] ++ (wX0 cy s1 s2 s3 s4 s5 Asz Anu Aba Amo Aco ++ (wX4 cy s6 s7 Hsz Hla Hce ++ (wX4 cy s8 s9 Bsz Bla Bce))))))) (w2 := wX1 cy hd sv nx SL) (w' := wX7 cy a0 t0 t1 k0 k1 k2 s0 s1 s2 s3 s4 s5 s6 s7 s8 s9 s10 s11 hd Xle Xch Xpo Xltr Xfi Xse Xth Ksz Kcl Kke Asz Anu Aba Amo Aco Hsz Hla Hce Bsz Bla Bce Tma Tlc Ttc day lim low hig thr off cre rcp pay sv nx SL) rfl rfl hP hK hD hN hS hA (q0 := 0) rfl rfl rfl rfl hl rfl (Nat.le_of_ble_eq_true rfl) dX7_entry_38 ⟨Nat.zero_le _, Nat.zero_le _⟩ (fun H locs hP hD hS => ?_)
        have hf := Option.some.inj hf
        cases hf
        exact x_iret hx hb hr hlocks hK hP hD hS dX7_entry_41
      · have hf := x_f c_5 hf
        refine lv_bipush (v := (-2)) hx hb dX7_entry_26 (by decide) ?_
        have hf := Option.some.inj hf
        cases hf
        exact x_iret hx hb hr hlocks hK hP hD hS dX7_entry_28
  · have hf := x_t c_3 hf
    refine lv_iconst (v := (-1)) hx hb dX7_entry_14 (by decide) ?_
    have hf := Option.some.inj hf
    cases hf
    exact x_iret hx hb hr hlocks hK hP hD hS dX7_entry_15
theorem kdX7_sum : yX7_sum.cls = RX7 ∧ yX7_sum.cls ≠ "java/lang/invoke/MethodHandle" ∧ yX7_sum.cls ≠ "java/lang/invoke/VarHandle" ∧ (parseMethodDescriptor yX7_sum.desc).map (fun d => d.parameters.length) = some 1 := by decide +kernel
def rmX7_sum : Room := { frames := 3, cells := 0, slots := 0, locals := 65 }
set_option maxHeartbeats 4000000 in
set_option maxRecDepth 100000 in
theorem mX7_sum (l : Launch) (D : va_G) (cy : Nat → ClassId) (a0 t0 t1 k0 k1 k2 s0 s1 s2 s3 s4 s5 s6 s7 s8 s9 s10 s11 : Nat) (hd : Nat → Nat) (Xle : Int32) (Xch : Nat → Int32) (Xpo : Int32) (Xltr : Int32) (Xfi : Int32) (Xse : Int32) (Xth : Int32) (Ksz : Int32) (Kcl : Nat → Int32) (Kke : Nat → Int32) (Asz : Int32) (Anu : Nat → Int32) (Aba : Nat → Int32) (Amo : Nat → Int32) (Aco : Nat → Int64) (Hsz : Int32) (Hla : Int32) (Hce : Nat → Int32) (Bsz : Int32) (Bla : Int32) (Bce : Nat → Int32) (Tma : Int32) (Tlc : Int32) (Ttc : Nat → Int32) (day : Int32) (lim : Int32) (low : Int32) (hig : Int32) (thr : Int32) (off : Int64) (cre : Int64) (rcp : Int64) (pay : Int64) (sv : Int32) (nx : Int32) (SL : Nat → XS) (p1 : Int32) (r : Int64) (hf : fX7_sum Asz Aba Hsz Hce off cre rcp pay p1 = some r) : xMl l D cy yX7_sum aX7_sum rmX7_sum ([.ref a0, .int p1] : List Value) (wX7 cy a0 t0 t1 k0 k1 k2 s0 s1 s2 s3 s4 s5 s6 s7 s8 s9 s10 s11 hd Xle Xch Xpo Xltr Xfi Xse Xth Ksz Kcl Kke Asz Anu Aba Amo Aco Hsz Hla Hce Bsz Bla Bce Tma Tlc Ttc day lim low hig thr off cre rcp pay sv nx SL) (wX7 cy a0 t0 t1 k0 k1 k2 s0 s1 s2 s3 s4 s5 s6 s7 s8 s9 s10 s11 hd Xle Xch Xpo Xltr Xfi Xse Xth Ksz Kcl Kke Asz Anu Aba Amo Aco Hsz Hla Hce Bsz Bla Bce Tma Tlc Ttc day lim low hig thr off cre rcp pay sv nx SL) r := by
  intro hz
  refine x_start (Qc := xQl D cy _ r) (cc := cX7_sum) (maxL := 2) (ret := (some .long)) (by decide) rfl (Nat.le_of_ble_eq_true rfl) (lv := [(0, .ref a0), (1, .int p1)]) rfl ?_
  intro p e s m below meth c ls A hx hb hr hml hown hts hlocks hK hP hD hS hA hN hl
  have hown : s.vm.findClass RX7 = some m.cls := hown
  have hbg : ∀ w ∈ wsL_law, w ∈ aX7_sum := fun w h => List.mem_cons_of_mem _ h
  have wd0 : (Cond.fieldLink RX7 10 "ClientMoneyBook" "state" "LClientMoneyBook$State;").before ([.ref a0, .int p1] : List Value).toArray s = true := hts _ (List.mem_cons_of_mem _ wm_0_15)
  have wd1 : (Cond.fieldLink RX7 94 "ClientMoneyBook$State" "accounts" "LClientMoneyBook$Accounts;").before ([.ref a0, .int p1] : List Value).toArray s = true := hts _ (List.mem_cons_of_mem _ wm_26_15)
  have wd2 : (Cond.fieldLink RX7 116 "ClientMoneyBook$State" "holds" "LClientMoneyBook$Rows;").before ([.ref a0, .int p1] : List Value).toArray s = true := hts _ (List.mem_cons_of_mem _ wm_29_18)
  have wd3 : (Cond.fieldLink RX7 152 "ClientMoneyBook$State" "office" "J").before ([.ref a0, .int p1] : List Value).toArray s = true := hts _ (List.mem_cons_of_mem _ wm_31_13)
  have wd4 : (Cond.fieldLink RX7 156 "ClientMoneyBook$State" "credited" "J").before ([.ref a0, .int p1] : List Value).toArray s = true := hts _ (List.mem_cons_of_mem _ wm_31_14)
  have wd5 : (Cond.fieldLink RX7 159 "ClientMoneyBook$State" "receipts" "J").before ([.ref a0, .int p1] : List Value).toArray s = true := hts _ (List.mem_cons_of_mem _ wm_31_15)
  have wd6 : (Cond.fieldLink RX7 162 "ClientMoneyBook$State" "payments" "J").before ([.ref a0, .int p1] : List Value).toArray s = true := hts _ (List.mem_cons_of_mem _ wm_31_16)
  have wd7 : (Cond.constantLong RX7 165 (-2)).before ([.ref a0, .int p1] : List Value).toArray s = true := hts _ (List.mem_cons_of_mem _ wm_31_17)
  have iX5 : ∀ w ∈ u_ws RX5 TX5 13, w ∈ aX7_sum := fun w h => List.mem_cons_of_mem _ (inlX5 w h)
  have iX7 : ∀ w ∈ u_ws RX7 TX7 4, w ∈ aX7_sum := fun w h => List.mem_cons_of_mem _ (inlX7 w h)
  unfold fX7_sum at hf
  refine lv_iload_n hx hb dX7_sum_0 rfl (lv_at hl 1 rfl) ?_
  by_cases s_1 : p1 = 0
  · have hf := x_t s_1 hf
    have s_1i : p1.toInt = 0 := by rw [s_1]; rfl
    refine lv_tableIn (tgt := 40) (off := 39) hx hb dX7_sum_1 (by rw [s_1i]; decide) (by rw [s_1i]; decide) (by rw [s_1i]; rfl) (by decide) ?_
    refine lv_aload_n hx hb dX7_sum_40 rfl (lv_at hl 0 rfl) ?_
    refine x_get hx hb (C := RX7) (T := TX7) (N := 4) (ci := 7) hts iX7 hown hK hP 0 rfl rfl 0 (by decide) wd0 rfl (.ref s0) rfl dX7_sum_41 ?_
    refine x_get hx hb (C := RX5) (T := TX5) (N := 13) (ci := 5) hts iX5 hown hK hP 6 rfl rfl 0 (by decide) wd1 rfl (.ref s1) rfl dX7_sum_44 ?_
    obtain ⟨r_2, h_3, hf⟩ := bd1_el hf
    refine x_callVl (As := []) (rest := []) ⟨hx, hb, hml, hown, hts⟩ (mX0_sumOfBalances l D cy s1 s2 s3 s4 s5 Asz Anu Aba Amo Aco  r_2 h_3) (cwV 0 hts (gcV_X0_sumOfBalances hbg wm_31_18) rfl rfl rfl kdX0_sumOfBalances ⟨Nat.le_of_ble_eq_true rfl, Nat.le_of_ble_eq_true rfl⟩) (w1 := [(a0, .inr (7, [.ref s0, .ref (hd 0), .ref t0, .ref k0]))] ++ (wX2 cy t0 t1 Xle Xch Xpo Xltr Xfi Xse Xth ++ (wX3 cy k0 k1 k2 Ksz Kcl Kke ++ ([(s0, .inr (5, [.ref s1, .ref s6, .ref s8, .ref s10, .int day, .int lim, .int low, .int hig, .int thr, .long off, .long cre, .long rcp, .long pay]))])))) (w2 := wX4 cy s6 s7 Hsz Hla Hce ++ (wX4 cy s8 s9 Bsz Bla Bce ++ (wX6 cy s10 s11 Tma Tlc Ttc ++ (wX1 cy hd sv nx SL)))) (w' := wX7 cy a0 t0 t1 k0 k1 k2 s0 s1 s2 s3 s4 s5 s6 s7 s8 s9 s10 s11 hd Xle Xch Xpo Xltr Xfi Xse Xth Ksz Kcl Kke Asz Anu Aba Amo Aco Hsz Hla Hce Bsz Bla Bce Tma Tlc Ttc day lim low hig thr off cre rcp pay sv nx SL) rfl rfl hP hK hD hN hS hA (q0 := 0) rfl rfl rfl rfl hl rfl (Nat.le_of_ble_eq_true rfl) dX7_sum_47 ⟨Nat.zero_le _, Nat.zero_le _⟩ (fun H locs hP hD hS => ?_)
    have hf := Option.some.inj hf
    cases hf
    exact x_lret hx hb hr hlocks hK hP hD hS dX7_sum_50
  · have hf := x_f s_1 hf
    by_cases s_4 : p1 = 1
    · have hf := x_t s_4 hf
      have s_4i : p1.toInt = 1 := by rw [s_4]; rfl
      refine lv_tableIn (tgt := 51) (off := 50) hx hb dX7_sum_1 (by rw [s_4i]; decide) (by rw [s_4i]; decide) (by rw [s_4i]; rfl) (by decide) ?_
      refine lv_aload_n hx hb dX7_sum_51 rfl (lv_at hl 0 rfl) ?_
      refine x_get hx hb (C := RX7) (T := TX7) (N := 4) (ci := 7) hts iX7 hown hK hP 0 rfl rfl 0 (by decide) wd0 rfl (.ref s0) rfl dX7_sum_52 ?_
      refine x_get hx hb (C := RX5) (T := TX5) (N := 13) (ci := 5) hts iX5 hown hK hP 6 rfl rfl 1 (by decide) wd2 rfl (.ref s6) rfl dX7_sum_55 ?_
      refine lv_iconst (v := 2) hx hb dX7_sum_58 (by decide) ?_
      obtain ⟨r_5, h_6, hf⟩ := bd1_el hf
      refine x_callVl (As := [.int 2]) (rest := []) ⟨hx, hb, hml, hown, hts⟩ (mX4_sumOfAll l D cy s6 s7 Hsz Hla Hce 2 r_5 h_6) (cwV 1 hts (gcV_X4_sumOfAll hbg wm_31_23) rfl rfl rfl kdX4_sumOfAll ⟨Nat.le_of_ble_eq_true rfl, Nat.le_of_ble_eq_true rfl⟩) (w1 := [(a0, .inr (7, [.ref s0, .ref (hd 0), .ref t0, .ref k0]))] ++ (wX2 cy t0 t1 Xle Xch Xpo Xltr Xfi Xse Xth ++ (wX3 cy k0 k1 k2 Ksz Kcl Kke ++ ([(s0, .inr (5, [.ref s1, .ref s6, .ref s8, .ref s10, .int day, .int lim, .int low, .int hig, .int thr, .long off, .long cre, .long rcp, .long pay]))] ++ (wX0 cy s1 s2 s3 s4 s5 Asz Anu Aba Amo Aco))))) (w2 := wX4 cy s8 s9 Bsz Bla Bce ++ (wX6 cy s10 s11 Tma Tlc Ttc ++ (wX1 cy hd sv nx SL))) (w' := wX7 cy a0 t0 t1 k0 k1 k2 s0 s1 s2 s3 s4 s5 s6 s7 s8 s9 s10 s11 hd Xle Xch Xpo Xltr Xfi Xse Xth Ksz Kcl Kke Asz Anu Aba Amo Aco Hsz Hla Hce Bsz Bla Bce Tma Tlc Ttc day lim low hig thr off cre rcp pay sv nx SL) rfl rfl hP hK hD hN hS hA (q0 := 0) rfl rfl rfl rfl hl rfl (Nat.le_of_ble_eq_true rfl) dX7_sum_59 ⟨Nat.zero_le _, Nat.zero_le _⟩ (fun H locs hP hD hS => ?_)
      have hf := Option.some.inj hf
      cases hf
      exact x_lret hx hb hr hlocks hK hP hD hS dX7_sum_62
    · have hf := x_f s_4 hf
      by_cases s_7 : p1 = 2
      · have hf := x_t s_7 hf
        have s_7i : p1.toInt = 2 := by rw [s_7]; rfl
        refine lv_tableIn (tgt := 63) (off := 62) hx hb dX7_sum_1 (by rw [s_7i]; decide) (by rw [s_7i]; decide) (by rw [s_7i]; rfl) (by decide) ?_
        refine lv_aload_n hx hb dX7_sum_63 rfl (lv_at hl 0 rfl) ?_
        refine x_get hx hb (C := RX7) (T := TX7) (N := 4) (ci := 7) hts iX7 hown hK hP 0 rfl rfl 0 (by decide) wd0 rfl (.ref s0) rfl dX7_sum_64 ?_
        refine x_get hx hb (C := RX5) (T := TX5) (N := 13) (ci := 5) hts iX5 hown hK hP 6 rfl rfl 9 (by decide) wd3 rfl (.long off) rfl dX7_sum_67 ?_
        have hf := Option.some.inj hf
        cases hf
        exact x_lret hx hb hr hlocks hK hP hD hS dX7_sum_70
      · have hf := x_f s_7 hf
        by_cases s_8 : p1 = 3
        · have hf := x_t s_8 hf
          have s_8i : p1.toInt = 3 := by rw [s_8]; rfl
          refine lv_tableIn (tgt := 71) (off := 70) hx hb dX7_sum_1 (by rw [s_8i]; decide) (by rw [s_8i]; decide) (by rw [s_8i]; rfl) (by decide) ?_
          refine lv_aload_n hx hb dX7_sum_71 rfl (lv_at hl 0 rfl) ?_
          refine x_get hx hb (C := RX7) (T := TX7) (N := 4) (ci := 7) hts iX7 hown hK hP 0 rfl rfl 0 (by decide) wd0 rfl (.ref s0) rfl dX7_sum_72 ?_
          refine x_get hx hb (C := RX5) (T := TX5) (N := 13) (ci := 5) hts iX5 hown hK hP 6 rfl rfl 10 (by decide) wd4 rfl (.long cre) rfl dX7_sum_75 ?_
          have hf := Option.some.inj hf
          cases hf
          exact x_lret hx hb hr hlocks hK hP hD hS dX7_sum_78
        · have hf := x_f s_8 hf
          by_cases s_9 : p1 = 4
          · have hf := x_t s_9 hf
            have s_9i : p1.toInt = 4 := by rw [s_9]; rfl
            refine lv_tableIn (tgt := 79) (off := 78) hx hb dX7_sum_1 (by rw [s_9i]; decide) (by rw [s_9i]; decide) (by rw [s_9i]; rfl) (by decide) ?_
            refine lv_aload_n hx hb dX7_sum_79 rfl (lv_at hl 0 rfl) ?_
            refine x_get hx hb (C := RX7) (T := TX7) (N := 4) (ci := 7) hts iX7 hown hK hP 0 rfl rfl 0 (by decide) wd0 rfl (.ref s0) rfl dX7_sum_80 ?_
            refine x_get hx hb (C := RX5) (T := TX5) (N := 13) (ci := 5) hts iX5 hown hK hP 6 rfl rfl 11 (by decide) wd5 rfl (.long rcp) rfl dX7_sum_83 ?_
            have hf := Option.some.inj hf
            cases hf
            exact x_lret hx hb hr hlocks hK hP hD hS dX7_sum_86
          · have hf := x_f s_9 hf
            by_cases s_10 : p1 = 5
            · have hf := x_t s_10 hf
              have s_10i : p1.toInt = 5 := by rw [s_10]; rfl
              refine lv_tableIn (tgt := 87) (off := 86) hx hb dX7_sum_1 (by rw [s_10i]; decide) (by rw [s_10i]; decide) (by rw [s_10i]; rfl) (by decide) ?_
              refine lv_aload_n hx hb dX7_sum_87 rfl (lv_at hl 0 rfl) ?_
              refine x_get hx hb (C := RX7) (T := TX7) (N := 4) (ci := 7) hts iX7 hown hK hP 0 rfl rfl 0 (by decide) wd0 rfl (.ref s0) rfl dX7_sum_88 ?_
              refine x_get hx hb (C := RX5) (T := TX5) (N := 13) (ci := 5) hts iX5 hown hK hP 6 rfl rfl 12 (by decide) wd6 rfl (.long pay) rfl dX7_sum_91 ?_
              have hf := Option.some.inj hf
              cases hf
              exact x_lret hx hb hr hlocks hK hP hD hS dX7_sum_94
            · have hf := x_f s_10 hf
              refine lv_tableOut (tgt := 95) hx hb dX7_sum_1 (x_out0_5 s_1 s_4 s_7 s_8 s_9 s_10) (by decide) ?_
              refine lv_ldc2 hx hb hown wd7 dX7_sum_95 ?_
              have hf := Option.some.inj hf
              cases hf
              exact x_lret hx hb hr hlocks hK hP hD hS dX7_sum_98
theorem kdX7_payableOn : yX7_payableOn.cls = RX7 ∧ yX7_payableOn.cls ≠ "java/lang/invoke/MethodHandle" ∧ yX7_payableOn.cls ≠ "java/lang/invoke/VarHandle" ∧ (parseMethodDescriptor yX7_payableOn.desc).map (fun d => d.parameters.length) = some 2 := by decide +kernel
def rmX7_payableOn : Room := { frames := 3, cells := 0, slots := 0, locals := 77 }
set_option maxHeartbeats 4000000 in
set_option maxRecDepth 100000 in
theorem mX7_payableOn (l : Launch) (D : va_G) (cy : Nat → ClassId) (a0 t0 t1 k0 k1 k2 s0 s1 s2 s3 s4 s5 s6 s7 s8 s9 s10 s11 : Nat) (hd : Nat → Nat) (Xle : Int32) (Xch : Nat → Int32) (Xpo : Int32) (Xltr : Int32) (Xfi : Int32) (Xse : Int32) (Xth : Int32) (Ksz : Int32) (Kcl : Nat → Int32) (Kke : Nat → Int32) (Asz : Int32) (Anu : Nat → Int32) (Aba : Nat → Int32) (Amo : Nat → Int32) (Aco : Nat → Int64) (Hsz : Int32) (Hla : Int32) (Hce : Nat → Int32) (Bsz : Int32) (Bla : Int32) (Bce : Nat → Int32) (Tma : Int32) (Tlc : Int32) (Ttc : Nat → Int32) (day : Int32) (lim : Int32) (low : Int32) (hig : Int32) (thr : Int32) (off : Int64) (cre : Int64) (rcp : Int64) (pay : Int64) (sv : Int32) (nx : Int32) (SL : Nat → XS) (p1 : Int32) (p2 : Int32) (r : Int32) (hf : fX7_payableOn Asz Anu Aba Aco Hsz Hce day lim low hig thr p1 p2 = some r) : xMi l D cy yX7_payableOn aX7_payableOn rmX7_payableOn ([.ref a0, .int p1, .int p2] : List Value) (wX7 cy a0 t0 t1 k0 k1 k2 s0 s1 s2 s3 s4 s5 s6 s7 s8 s9 s10 s11 hd Xle Xch Xpo Xltr Xfi Xse Xth Ksz Kcl Kke Asz Anu Aba Amo Aco Hsz Hla Hce Bsz Bla Bce Tma Tlc Ttc day lim low hig thr off cre rcp pay sv nx SL) (wX7 cy a0 t0 t1 k0 k1 k2 s0 s1 s2 s3 s4 s5 s6 s7 s8 s9 s10 s11 hd Xle Xch Xpo Xltr Xfi Xse Xth Ksz Kcl Kke Asz Anu Aba Amo Aco Hsz Hla Hce Bsz Bla Bce Tma Tlc Ttc day lim low hig thr off cre rcp pay sv nx SL) r := by
  intro hz
  refine x_start (Qc := xQi D cy _ r) (cc := cX7_payableOn) (maxL := 4) (ret := (some .int)) (by decide) rfl (Nat.le_of_ble_eq_true rfl) (lv := [(0, .ref a0), (1, .int p1), (2, .int p2)]) rfl ?_
  intro p e s m below meth c ls A hx hb hr hml hown hts hlocks hK hP hD hS hA hN hl
  have hown : s.vm.findClass RX7 = some m.cls := hown
  have hbg : ∀ w ∈ wsL_law, w ∈ aX7_payableOn := fun w h => List.mem_cons_of_mem _ h
  have wd0 : (Cond.fieldLink RX7 10 "ClientMoneyBook" "state" "LClientMoneyBook$State;").before ([.ref a0, .int p1, .int p2] : List Value).toArray s = true := hts _ (List.mem_cons_of_mem _ wm_0_15)
  have wd1 : (Cond.fieldLink RX7 94 "ClientMoneyBook$State" "accounts" "LClientMoneyBook$Accounts;").before ([.ref a0, .int p1, .int p2] : List Value).toArray s = true := hts _ (List.mem_cons_of_mem _ wm_26_15)
  have iX5 : ∀ w ∈ u_ws RX5 TX5 13, w ∈ aX7_payableOn := fun w h => List.mem_cons_of_mem _ (inlX5 w h)
  have iX7 : ∀ w ∈ u_ws RX7 TX7 4, w ∈ aX7_payableOn := fun w h => List.mem_cons_of_mem _ (inlX7 w h)
  unfold fX7_payableOn at hf
  refine lv_aload_n hx hb dX7_payableOn_0 rfl (lv_at hl 0 rfl) ?_
  refine x_get hx hb (C := RX7) (T := TX7) (N := 4) (ci := 7) hts iX7 hown hK hP 0 rfl rfl 0 (by decide) wd0 rfl (.ref s0) rfl dX7_payableOn_1 ?_
  refine x_get hx hb (C := RX5) (T := TX5) (N := 13) (ci := 5) hts iX5 hown hK hP 6 rfl rfl 0 (by decide) wd1 rfl (.ref s1) rfl dX7_payableOn_4 ?_
  refine lv_iload_n hx hb dX7_payableOn_7 rfl (lv_at hl 1 rfl) ?_
  obtain ⟨r_1, h_2, hf⟩ := bd1_el hf
  refine x_callVi (As := [.int p1]) (rest := []) ⟨hx, hb, hml, hown, hts⟩ (mX0_find l D cy s1 s2 s3 s4 s5 Asz Anu Aba Amo Aco p1 r_1 h_2) (cwV 1 hts (gcV_X0_find hbg wm_28_14) rfl rfl rfl kdX0_find ⟨Nat.le_of_ble_eq_true rfl, Nat.le_of_ble_eq_true rfl⟩) (w1 := [(a0, .inr (7, [.ref s0, .ref (hd 0), .ref t0, .ref k0]))] ++ (wX2 cy t0 t1 Xle Xch Xpo Xltr Xfi Xse Xth ++ (wX3 cy k0 k1 k2 Ksz Kcl Kke ++ ([(s0, .inr (5, [.ref s1, .ref s6, .ref s8, .ref s10, .int day, .int lim, .int low, .int hig, .int thr, .long off, .long cre, .long rcp, .long pay]))])))) (w2 := wX4 cy s6 s7 Hsz Hla Hce ++ (wX4 cy s8 s9 Bsz Bla Bce ++ (wX6 cy s10 s11 Tma Tlc Ttc ++ (wX1 cy hd sv nx SL)))) (w' := wX7 cy a0 t0 t1 k0 k1 k2 s0 s1 s2 s3 s4 s5 s6 s7 s8 s9 s10 s11 hd Xle Xch Xpo Xltr Xfi Xse Xth Ksz Kcl Kke Asz Anu Aba Amo Aco Hsz Hla Hce Bsz Bla Bce Tma Tlc Ttc day lim low hig thr off cre rcp pay sv nx SL) rfl rfl hP hK hD hN hS hA (q0 := 0) rfl rfl rfl rfl hl rfl (Nat.le_of_ble_eq_true rfl) dX7_payableOn_8 ⟨Nat.zero_le _, Nat.zero_le _⟩ (fun H locs hP hD hS => ?_)
  refine lv_istore_n (lv' := [(3, .int r_1), (0, .ref a0), (1, .int p1), (2, .int p2)]) hx hb dX7_payableOn_11 rfl hl (by decide) rfl (fun ls hl => ?_)
  refine lv_iload_n hx hb dX7_payableOn_12 rfl (lv_at hl 0 rfl) ?_
  refine lv_if_ge (tgt := 18) hx hb dX7_payableOn_13 (by decide) (fun c_3 => ?_) (fun c_3 => ?_)
  · have hf := x_t c_3 hf
    refine lv_iload_n hx hb dX7_payableOn_18 rfl (lv_at hl 3 rfl) ?_
    obtain ⟨r_4, h_5, hf⟩ := bd1_el hf
    refine x_callSi (As := [.int p2]) (rest := []) ⟨hx, hb, hml, hown, hts⟩ (mX7_isAmount l D cy   p2 r_4 h_5) (va_cwS 1 hts (gcS_X7_isAmount hbg wm_32_16) rfl rfl rfl kdX7_isAmount ⟨Nat.le_of_ble_eq_true rfl, Nat.le_of_ble_eq_true rfl⟩) (w1 := []) (w2 := wX7 cy a0 t0 t1 k0 k1 k2 s0 s1 s2 s3 s4 s5 s6 s7 s8 s9 s10 s11 hd Xle Xch Xpo Xltr Xfi Xse Xth Ksz Kcl Kke Asz Anu Aba Amo Aco Hsz Hla Hce Bsz Bla Bce Tma Tlc Ttc day lim low hig thr off cre rcp pay sv nx SL) (w' := wX7 cy a0 t0 t1 k0 k1 k2 s0 s1 s2 s3 s4 s5 s6 s7 s8 s9 s10 s11 hd Xle Xch Xpo Xltr Xfi Xse Xth Ksz Kcl Kke Asz Anu Aba Amo Aco Hsz Hla Hce Bsz Bla Bce Tma Tlc Ttc day lim low hig thr off cre rcp pay sv nx SL) rfl rfl hP hK hD hN hS hA rfl hl rfl (Nat.le_of_ble_eq_true rfl) dX7_payableOn_19 ⟨Nat.zero_le _, Nat.zero_le _⟩ (fun H locs hP hD hS => ?_)
    refine lv_if_ne (tgt := 28) hx hb dX7_payableOn_22 (by decide) (fun c_6 => ?_) (fun c_6 => ?_)
    · have hf := x_f c_6 hf
      refine lv_aload_n hx hb dX7_payableOn_28 rfl (lv_at hl 1 rfl) ?_
      refine x_get hx hb (C := RX7) (T := TX7) (N := 4) (ci := 7) hts iX7 hown hK hP 0 rfl rfl 0 (by decide) wd0 rfl (.ref s0) rfl dX7_payableOn_29 ?_
      refine lv_iload_n hx hb dX7_payableOn_32 rfl (lv_at hl 0 rfl) ?_
      refine lv_iload_n hx hb dX7_payableOn_33 rfl (lv_at hl 3 rfl) ?_
      obtain ⟨r_7, h_8, hf⟩ := bd1_el hf
      refine x_callVi (As := [.int r_1, .int p2]) (rest := []) ⟨hx, hb, hml, hown, hts⟩ (mX5_firstDayWithFree l D cy s0 s1 s2 s3 s4 s5 s6 s7 s8 s9 s10 s11 Asz Anu Aba Amo Aco Hsz Hla Hce Bsz Bla Bce Tma Tlc Ttc day lim low hig thr off cre rcp pay r_1 p2 r_7 h_8) (cwV 2 hts (gcV_X5_firstDayWithFree hbg wm_32_17) rfl rfl rfl kdX5_firstDayWithFree ⟨Nat.le_of_ble_eq_true rfl, Nat.le_of_ble_eq_true rfl⟩) (w1 := [(a0, .inr (7, [.ref s0, .ref (hd 0), .ref t0, .ref k0]))] ++ (wX2 cy t0 t1 Xle Xch Xpo Xltr Xfi Xse Xth ++ (wX3 cy k0 k1 k2 Ksz Kcl Kke))) (w2 := wX1 cy hd sv nx SL) (w' := wX7 cy a0 t0 t1 k0 k1 k2 s0 s1 s2 s3 s4 s5 s6 s7 s8 s9 s10 s11 hd Xle Xch Xpo Xltr Xfi Xse Xth Ksz Kcl Kke Asz Anu Aba Amo Aco Hsz Hla Hce Bsz Bla Bce Tma Tlc Ttc day lim low hig thr off cre rcp pay sv nx SL) rfl rfl hP hK hD hN hS hA (q0 := 0) rfl rfl rfl rfl hl rfl (Nat.le_of_ble_eq_true rfl) dX7_payableOn_34 ⟨Nat.zero_le _, Nat.zero_le _⟩ (fun H locs hP hD hS => ?_)
      have hf := Option.some.inj hf
      cases hf
      exact x_iret hx hb hr hlocks hK hP hD hS dX7_payableOn_37
    · have hf := x_t c_6 hf
      refine lv_bipush (v := (-2)) hx hb dX7_payableOn_25 (by decide) ?_
      have hf := Option.some.inj hf
      cases hf
      exact x_iret hx hb hr hlocks hK hP hD hS dX7_payableOn_27
  · have hf := x_f c_3 hf
    refine lv_iconst (v := (-1)) hx hb dX7_payableOn_16 (by decide) ?_
    have hf := Option.some.inj hf
    cases hf
    exact x_iret hx hb hr hlocks hK hP hD hS dX7_payableOn_17
theorem kdX7_interestIn : yX7_interestIn.cls = RX7 ∧ yX7_interestIn.cls ≠ "java/lang/invoke/MethodHandle" ∧ yX7_interestIn.cls ≠ "java/lang/invoke/VarHandle" ∧ (parseMethodDescriptor yX7_interestIn.desc).map (fun d => d.parameters.length) = some 2 := by decide +kernel
def rmX7_interestIn : Room := { frames := 3, cells := 0, slots := 0, locals := 77 }
set_option maxHeartbeats 4000000 in
set_option maxRecDepth 100000 in
theorem mX7_interestIn (l : Launch) (D : va_G) (cy : Nat → ClassId) (a0 t0 t1 k0 k1 k2 s0 s1 s2 s3 s4 s5 s6 s7 s8 s9 s10 s11 : Nat) (hd : Nat → Nat) (Xle : Int32) (Xch : Nat → Int32) (Xpo : Int32) (Xltr : Int32) (Xfi : Int32) (Xse : Int32) (Xth : Int32) (Ksz : Int32) (Kcl : Nat → Int32) (Kke : Nat → Int32) (Asz : Int32) (Anu : Nat → Int32) (Aba : Nat → Int32) (Amo : Nat → Int32) (Aco : Nat → Int64) (Hsz : Int32) (Hla : Int32) (Hce : Nat → Int32) (Bsz : Int32) (Bla : Int32) (Bce : Nat → Int32) (Tma : Int32) (Tlc : Int32) (Ttc : Nat → Int32) (day : Int32) (lim : Int32) (low : Int32) (hig : Int32) (thr : Int32) (off : Int64) (cre : Int64) (rcp : Int64) (pay : Int64) (sv : Int32) (nx : Int32) (SL : Nat → XS) (p1 : Int32) (p2 : Int32) (r : Int32) (hf : fX7_interestIn Asz Anu Aba Aco day lim low hig thr p1 p2 = some r) : xMi l D cy yX7_interestIn aX7_interestIn rmX7_interestIn ([.ref a0, .int p1, .int p2] : List Value) (wX7 cy a0 t0 t1 k0 k1 k2 s0 s1 s2 s3 s4 s5 s6 s7 s8 s9 s10 s11 hd Xle Xch Xpo Xltr Xfi Xse Xth Ksz Kcl Kke Asz Anu Aba Amo Aco Hsz Hla Hce Bsz Bla Bce Tma Tlc Ttc day lim low hig thr off cre rcp pay sv nx SL) (wX7 cy a0 t0 t1 k0 k1 k2 s0 s1 s2 s3 s4 s5 s6 s7 s8 s9 s10 s11 hd Xle Xch Xpo Xltr Xfi Xse Xth Ksz Kcl Kke Asz Anu Aba Amo Aco Hsz Hla Hce Bsz Bla Bce Tma Tlc Ttc day lim low hig thr off cre rcp pay sv nx SL) r := by
  intro hz
  refine x_start (Qc := xQi D cy _ r) (cc := cX7_interestIn) (maxL := 4) (ret := (some .int)) (by decide) rfl (Nat.le_of_ble_eq_true rfl) (lv := [(0, .ref a0), (1, .int p1), (2, .int p2)]) rfl ?_
  intro p e s m below meth c ls A hx hb hr hml hown hts hlocks hK hP hD hS hA hN hl
  have hown : s.vm.findClass RX7 = some m.cls := hown
  have hbg : ∀ w ∈ wsL_law, w ∈ aX7_interestIn := fun w h => List.mem_cons_of_mem _ h
  have wd0 : (Cond.fieldLink RX7 10 "ClientMoneyBook" "state" "LClientMoneyBook$State;").before ([.ref a0, .int p1, .int p2] : List Value).toArray s = true := hts _ (List.mem_cons_of_mem _ wm_0_15)
  have wd1 : (Cond.fieldLink RX7 94 "ClientMoneyBook$State" "accounts" "LClientMoneyBook$Accounts;").before ([.ref a0, .int p1, .int p2] : List Value).toArray s = true := hts _ (List.mem_cons_of_mem _ wm_26_15)
  have iX5 : ∀ w ∈ u_ws RX5 TX5 13, w ∈ aX7_interestIn := fun w h => List.mem_cons_of_mem _ (inlX5 w h)
  have iX7 : ∀ w ∈ u_ws RX7 TX7 4, w ∈ aX7_interestIn := fun w h => List.mem_cons_of_mem _ (inlX7 w h)
  unfold fX7_interestIn at hf
  refine lv_aload_n hx hb dX7_interestIn_0 rfl (lv_at hl 0 rfl) ?_
  refine x_get hx hb (C := RX7) (T := TX7) (N := 4) (ci := 7) hts iX7 hown hK hP 0 rfl rfl 0 (by decide) wd0 rfl (.ref s0) rfl dX7_interestIn_1 ?_
  refine x_get hx hb (C := RX5) (T := TX5) (N := 13) (ci := 5) hts iX5 hown hK hP 6 rfl rfl 0 (by decide) wd1 rfl (.ref s1) rfl dX7_interestIn_4 ?_
  refine lv_iload_n hx hb dX7_interestIn_7 rfl (lv_at hl 1 rfl) ?_
  obtain ⟨r_1, h_2, hf⟩ := bd1_el hf
  refine x_callVi (As := [.int p1]) (rest := []) ⟨hx, hb, hml, hown, hts⟩ (mX0_find l D cy s1 s2 s3 s4 s5 Asz Anu Aba Amo Aco p1 r_1 h_2) (cwV 1 hts (gcV_X0_find hbg wm_28_14) rfl rfl rfl kdX0_find ⟨Nat.le_of_ble_eq_true rfl, Nat.le_of_ble_eq_true rfl⟩) (w1 := [(a0, .inr (7, [.ref s0, .ref (hd 0), .ref t0, .ref k0]))] ++ (wX2 cy t0 t1 Xle Xch Xpo Xltr Xfi Xse Xth ++ (wX3 cy k0 k1 k2 Ksz Kcl Kke ++ ([(s0, .inr (5, [.ref s1, .ref s6, .ref s8, .ref s10, .int day, .int lim, .int low, .int hig, .int thr, .long off, .long cre, .long rcp, .long pay]))])))) (w2 := wX4 cy s6 s7 Hsz Hla Hce ++ (wX4 cy s8 s9 Bsz Bla Bce ++ (wX6 cy s10 s11 Tma Tlc Ttc ++ (wX1 cy hd sv nx SL)))) (w' := wX7 cy a0 t0 t1 k0 k1 k2 s0 s1 s2 s3 s4 s5 s6 s7 s8 s9 s10 s11 hd Xle Xch Xpo Xltr Xfi Xse Xth Ksz Kcl Kke Asz Anu Aba Amo Aco Hsz Hla Hce Bsz Bla Bce Tma Tlc Ttc day lim low hig thr off cre rcp pay sv nx SL) rfl rfl hP hK hD hN hS hA (q0 := 0) rfl rfl rfl rfl hl rfl (Nat.le_of_ble_eq_true rfl) dX7_interestIn_8 ⟨Nat.zero_le _, Nat.zero_le _⟩ (fun H locs hP hD hS => ?_)
  refine lv_istore_n (lv' := [(3, .int r_1), (0, .ref a0), (1, .int p1), (2, .int p2)]) hx hb dX7_interestIn_11 rfl hl (by decide) rfl (fun ls hl => ?_)
  refine lv_iload_n hx hb dX7_interestIn_12 rfl (lv_at hl 0 rfl) ?_
  refine lv_if_ge (tgt := 18) hx hb dX7_interestIn_13 (by decide) (fun c_3 => ?_) (fun c_3 => ?_)
  · have hf := x_t c_3 hf
    refine lv_iload_n hx hb dX7_interestIn_18 rfl (lv_at hl 3 rfl) ?_
    refine lv_iconst (v := 1) hx hb dX7_interestIn_19 (by decide) ?_
    refine lv_icmp_lt (tgt := 30) hx hb dX7_interestIn_20 (by decide) (fun c_4 => ?_) (fun c_4 => ?_)
    · have hf := x_t c_4 hf
      refine lv_bipush (v := (-2)) hx hb dX7_interestIn_30 (by decide) ?_
      have hf := Option.some.inj hf
      cases hf
      exact x_iret hx hb hr hlocks hK hP hD hS dX7_interestIn_32
    · have hf := x_f c_4 hf
      refine lv_iload_n hx hb dX7_interestIn_23 rfl (lv_at hl 3 rfl) ?_
      refine lv_sipush (v := 400) hx hb dX7_interestIn_24 (by decide) ?_
      refine lv_icmp_le (tgt := 33) hx hb dX7_interestIn_27 (by decide) (fun c_5 => ?_) (fun c_5 => ?_)
      · have hf := x_t c_5 hf
        refine lv_aload_n hx hb dX7_interestIn_33 rfl (lv_at hl 1 rfl) ?_
        refine x_get hx hb (C := RX7) (T := TX7) (N := 4) (ci := 7) hts iX7 hown hK hP 0 rfl rfl 0 (by decide) wd0 rfl (.ref s0) rfl dX7_interestIn_34 ?_
        refine lv_iload_n hx hb dX7_interestIn_37 rfl (lv_at hl 0 rfl) ?_
        refine lv_iload_n hx hb dX7_interestIn_38 rfl (lv_at hl 3 rfl) ?_
        obtain ⟨r_6, h_7, hf⟩ := bd1_el hf
        refine x_callVi (As := [.int r_1, .int p2]) (rest := []) ⟨hx, hb, hml, hown, hts⟩ (mX5_interestAhead l D cy s0 s1 s2 s3 s4 s5 s6 s7 s8 s9 s10 s11 Asz Anu Aba Amo Aco Hsz Hla Hce Bsz Bla Bce Tma Tlc Ttc day lim low hig thr off cre rcp pay r_1 p2 r_6 h_7) (cwV 2 hts (gcV_X5_interestAhead hbg wm_33_9) rfl rfl rfl kdX5_interestAhead ⟨Nat.le_of_ble_eq_true rfl, Nat.le_of_ble_eq_true rfl⟩) (w1 := [(a0, .inr (7, [.ref s0, .ref (hd 0), .ref t0, .ref k0]))] ++ (wX2 cy t0 t1 Xle Xch Xpo Xltr Xfi Xse Xth ++ (wX3 cy k0 k1 k2 Ksz Kcl Kke))) (w2 := wX1 cy hd sv nx SL) (w' := wX7 cy a0 t0 t1 k0 k1 k2 s0 s1 s2 s3 s4 s5 s6 s7 s8 s9 s10 s11 hd Xle Xch Xpo Xltr Xfi Xse Xth Ksz Kcl Kke Asz Anu Aba Amo Aco Hsz Hla Hce Bsz Bla Bce Tma Tlc Ttc day lim low hig thr off cre rcp pay sv nx SL) rfl rfl hP hK hD hN hS hA (q0 := 0) rfl rfl rfl rfl hl rfl (Nat.le_of_ble_eq_true rfl) dX7_interestIn_39 ⟨Nat.zero_le _, Nat.zero_le _⟩ (fun H locs hP hD hS => ?_)
        have hf := Option.some.inj hf
        cases hf
        exact x_iret hx hb hr hlocks hK hP hD hS dX7_interestIn_42
      · have hf := x_f c_5 hf
        refine lv_bipush (v := (-2)) hx hb dX7_interestIn_30 (by decide) ?_
        have hf := Option.some.inj hf
        cases hf
        exact x_iret hx hb hr hlocks hK hP hD hS dX7_interestIn_32
  · have hf := x_f c_3 hf
    refine lv_iconst (v := (-1)) hx hb dX7_interestIn_16 (by decide) ?_
    have hf := Option.some.inj hf
    cases hf
    exact x_iret hx hb hr hlocks hK hP hD hS dX7_interestIn_17
theorem kdX7_type : yX7_type.cls = RX7 ∧ yX7_type.cls ≠ "java/lang/invoke/MethodHandle" ∧ yX7_type.cls ≠ "java/lang/invoke/VarHandle" ∧ (parseMethodDescriptor yX7_type.desc).map (fun d => d.parameters.length) = some 1 := by decide +kernel
def rmX7_type : Room := { frames := 1, cells := 0, slots := 0, locals := 21 }
set_option maxHeartbeats 4000000 in
set_option maxRecDepth 100000 in
theorem mX7_type (l : Launch) (D : va_G) (cy : Nat → ClassId) (a0 t0 t1 k0 k1 k2 s0 s1 s2 s3 s4 s5 s6 s7 s8 s9 s10 s11 : Nat) (hd : Nat → Nat) (Xle : Int32) (Xch : Nat → Int32) (Xpo : Int32) (Xltr : Int32) (Xfi : Int32) (Xse : Int32) (Xth : Int32) (Ksz : Int32) (Kcl : Nat → Int32) (Kke : Nat → Int32) (Asz : Int32) (Anu : Nat → Int32) (Aba : Nat → Int32) (Amo : Nat → Int32) (Aco : Nat → Int64) (Hsz : Int32) (Hla : Int32) (Hce : Nat → Int32) (Bsz : Int32) (Bla : Int32) (Bce : Nat → Int32) (Tma : Int32) (Tlc : Int32) (Ttc : Nat → Int32) (day : Int32) (lim : Int32) (low : Int32) (hig : Int32) (thr : Int32) (off : Int64) (cre : Int64) (rcp : Int64) (pay : Int64) (sv : Int32) (nx : Int32) (SL : Nat → XS) (p1 : Int32) (r : Int32) (Xle' : Int32) (Xch' : Nat → Int32) (hf : fX7_type Xle Xch p1 = some (r, Xle', Xch')) : xMi l D cy yX7_type aX7_type rmX7_type ([.ref a0, .int p1] : List Value) (wX7 cy a0 t0 t1 k0 k1 k2 s0 s1 s2 s3 s4 s5 s6 s7 s8 s9 s10 s11 hd Xle Xch Xpo Xltr Xfi Xse Xth Ksz Kcl Kke Asz Anu Aba Amo Aco Hsz Hla Hce Bsz Bla Bce Tma Tlc Ttc day lim low hig thr off cre rcp pay sv nx SL) (wX7 cy a0 t0 t1 k0 k1 k2 s0 s1 s2 s3 s4 s5 s6 s7 s8 s9 s10 s11 hd Xle' Xch' Xpo Xltr Xfi Xse Xth Ksz Kcl Kke Asz Anu Aba Amo Aco Hsz Hla Hce Bsz Bla Bce Tma Tlc Ttc day lim low hig thr off cre rcp pay sv nx SL) r := by
  intro hz
  refine x_start (Qc := xQi D cy _ r) (cc := cX7_type) (maxL := 2) (ret := (some .int)) (by decide) rfl (Nat.le_of_ble_eq_true rfl) (lv := [(0, .ref a0), (1, .int p1)]) rfl ?_
  intro p e s m below meth c ls A hx hb hr hml hown hts hlocks hK hP hD hS hA hN hl
  have hown : s.vm.findClass RX7 = some m.cls := hown
  have hbg : ∀ w ∈ wsL_law, w ∈ aX7_type := fun w h => List.mem_cons_of_mem _ h
  have wd0 : (Cond.fieldLink RX7 26 "ClientMoneyBook" "text" "LClientMoneyBook$OrderText;").before ([.ref a0, .int p1] : List Value).toArray s = true := hts _ (List.mem_cons_of_mem _ wm_0_23)
  have wd1 : (Cond.fieldLink RX7 176 "ClientMoneyBook$OrderText" "length" "I").before ([.ref a0, .int p1] : List Value).toArray s = true := hts _ (List.mem_cons_of_mem _ wm_33_21)
  have iX2 : ∀ w ∈ u_ws RX2 TX2 7, w ∈ aX7_type := fun w h => List.mem_cons_of_mem _ (inlX2 w h)
  have iX7 : ∀ w ∈ u_ws RX7 TX7 4, w ∈ aX7_type := fun w h => List.mem_cons_of_mem _ (inlX7 w h)
  unfold fX7_type at hf
  refine lv_iload_n hx hb dX7_type_0 rfl (lv_at hl 1 rfl) ?_
  refine lv_bipush (v := 33) hx hb dX7_type_1 (by decide) ?_
  refine lv_icmp_lt (tgt := 12) hx hb dX7_type_3 (by decide) (fun c_1 => ?_) (fun c_1 => ?_)
  · have hf := x_t c_1 hf
    refine lv_bipush (v := (-2)) hx hb dX7_type_12 (by decide) ?_
    have hf := Option.some.inj hf
    cases hf
    exact x_iret hx hb hr hlocks hK hP hD hS dX7_type_14
  · have hf := x_f c_1 hf
    refine lv_iload_n hx hb dX7_type_6 rfl (lv_at hl 1 rfl) ?_
    refine lv_bipush (v := 126) hx hb dX7_type_7 (by decide) ?_
    refine lv_icmp_le (tgt := 15) hx hb dX7_type_9 (by decide) (fun c_2 => ?_) (fun c_2 => ?_)
    · have hf := x_t c_2 hf
      refine lv_aload_n hx hb dX7_type_15 rfl (lv_at hl 0 rfl) ?_
      refine x_get hx hb (C := RX7) (T := TX7) (N := 4) (ci := 7) hts iX7 hown hK hP 0 rfl rfl 2 (by decide) wd0 rfl (.ref t0) rfl dX7_type_16 ?_
      refine x_get hx hb (C := RX2) (T := TX2) (N := 7) (ci := 2) hts iX2 hown hK hP 1 rfl rfl 0 (by decide) wd1 rfl (.int Xle) rfl dX7_type_19 ?_
      refine lv_bipush (v := 80) hx hb dX7_type_22 (by decide) ?_
      refine lv_icmp_lt (tgt := 30) hx hb dX7_type_24 (by decide) (fun c_3 => ?_) (fun c_3 => ?_)
      · have hf := x_t c_3 hf
        refine lv_aload_n hx hb dX7_type_30 rfl (lv_at hl 0 rfl) ?_
        refine x_get hx hb (C := RX7) (T := TX7) (N := 4) (ci := 7) hts iX7 hown hK hP 0 rfl rfl 2 (by decide) wd0 rfl (.ref t0) rfl dX7_type_31 ?_
        refine lv_iload_n hx hb dX7_type_34 rfl (lv_at hl 1 rfl) ?_
        refine lv_i2c (v := (p1.toUInt32 % 65536).toInt32) hx hb dX7_type_35 rfl ?_
        obtain ⟨r_4, Xle_5, Xch_6, h_7, hf⟩ := bd3_el hf
        refine x_callVi (As := [.int ((p1.toUInt32 % 65536).toInt32)]) (rest := []) ⟨hx, hb, hml, hown, hts⟩ (mX2_append l D cy t0 t1 Xle Xch Xpo Xltr Xfi Xse Xth ((p1.toUInt32 % 65536).toInt32) r_4 Xle_5 Xch_6 h_7) (cwV 1 hts (gcV_X2_append hbg wm_33_22) rfl rfl rfl kdX2_append ⟨Nat.le_of_ble_eq_true rfl, Nat.le_of_ble_eq_true rfl⟩) (w1 := [(a0, .inr (7, [.ref s0, .ref (hd 0), .ref t0, .ref k0]))]) (w2 := wX3 cy k0 k1 k2 Ksz Kcl Kke ++ (wX5 cy s0 s1 s2 s3 s4 s5 s6 s7 s8 s9 s10 s11 Asz Anu Aba Amo Aco Hsz Hla Hce Bsz Bla Bce Tma Tlc Ttc day lim low hig thr off cre rcp pay ++ (wX1 cy hd sv nx SL))) (w' := wX7 cy a0 t0 t1 k0 k1 k2 s0 s1 s2 s3 s4 s5 s6 s7 s8 s9 s10 s11 hd Xle_5 Xch_6 Xpo Xltr Xfi Xse Xth Ksz Kcl Kke Asz Anu Aba Amo Aco Hsz Hla Hce Bsz Bla Bce Tma Tlc Ttc day lim low hig thr off cre rcp pay sv nx SL) rfl rfl hP hK hD hN hS hA (q0 := 0) rfl rfl rfl rfl hl rfl (Nat.le_of_ble_eq_true rfl) dX7_type_36 ⟨Nat.zero_le _, Nat.zero_le _⟩ (fun H locs hP hD hS => ?_)
        have hf := Option.some.inj hf
        cases hf
        exact x_iret hx hb hr hlocks hK hP hD hS dX7_type_39
      · have hf := x_f c_3 hf
        refine lv_bipush (v := (-4)) hx hb dX7_type_27 (by decide) ?_
        have hf := Option.some.inj hf
        cases hf
        exact x_iret hx hb hr hlocks hK hP hD hS dX7_type_29
    · have hf := x_f c_2 hf
      refine lv_bipush (v := (-2)) hx hb dX7_type_12 (by decide) ?_
      have hf := Option.some.inj hf
      cases hf
      exact x_iret hx hb hr hlocks hK hP hD hS dX7_type_14
theorem kdX7_clearText : yX7_clearText.cls = RX7 ∧ yX7_clearText.cls ≠ "java/lang/invoke/MethodHandle" ∧ yX7_clearText.cls ≠ "java/lang/invoke/VarHandle" ∧ (parseMethodDescriptor yX7_clearText.desc).map (fun d => d.parameters.length) = some 0 := by decide +kernel
def rmX7_clearText : Room := { frames := 1, cells := 0, slots := 0, locals := 21 }
set_option maxHeartbeats 4000000 in
set_option maxRecDepth 100000 in
theorem mX7_clearText (l : Launch) (D : va_G) (cy : Nat → ClassId) (a0 t0 t1 k0 k1 k2 s0 s1 s2 s3 s4 s5 s6 s7 s8 s9 s10 s11 : Nat) (hd : Nat → Nat) (Xle : Int32) (Xch : Nat → Int32) (Xpo : Int32) (Xltr : Int32) (Xfi : Int32) (Xse : Int32) (Xth : Int32) (Ksz : Int32) (Kcl : Nat → Int32) (Kke : Nat → Int32) (Asz : Int32) (Anu : Nat → Int32) (Aba : Nat → Int32) (Amo : Nat → Int32) (Aco : Nat → Int64) (Hsz : Int32) (Hla : Int32) (Hce : Nat → Int32) (Bsz : Int32) (Bla : Int32) (Bce : Nat → Int32) (Tma : Int32) (Tlc : Int32) (Ttc : Nat → Int32) (day : Int32) (lim : Int32) (low : Int32) (hig : Int32) (thr : Int32) (off : Int64) (cre : Int64) (rcp : Int64) (pay : Int64) (sv : Int32) (nx : Int32) (SL : Nat → XS)  (r : Int32) (Xle' : Int32) (hf : fX7_clearText Xle = some (r, Xle')) : xMi l D cy yX7_clearText aX7_clearText rmX7_clearText ([.ref a0] : List Value) (wX7 cy a0 t0 t1 k0 k1 k2 s0 s1 s2 s3 s4 s5 s6 s7 s8 s9 s10 s11 hd Xle Xch Xpo Xltr Xfi Xse Xth Ksz Kcl Kke Asz Anu Aba Amo Aco Hsz Hla Hce Bsz Bla Bce Tma Tlc Ttc day lim low hig thr off cre rcp pay sv nx SL) (wX7 cy a0 t0 t1 k0 k1 k2 s0 s1 s2 s3 s4 s5 s6 s7 s8 s9 s10 s11 hd Xle' Xch Xpo Xltr Xfi Xse Xth Ksz Kcl Kke Asz Anu Aba Amo Aco Hsz Hla Hce Bsz Bla Bce Tma Tlc Ttc day lim low hig thr off cre rcp pay sv nx SL) r := by
  intro hz
  refine x_start (Qc := xQi D cy _ r) (cc := cX7_clearText) (maxL := 1) (ret := (some .int)) (by decide) rfl (Nat.le_of_ble_eq_true rfl) (lv := [(0, .ref a0)]) rfl ?_
  intro p e s m below meth c ls A hx hb hr hml hown hts hlocks hK hP hD hS hA hN hl
  have hown : s.vm.findClass RX7 = some m.cls := hown
  have hbg : ∀ w ∈ wsL_law, w ∈ aX7_clearText := fun w h => List.mem_cons_of_mem _ h
  have wd0 : (Cond.fieldLink RX7 26 "ClientMoneyBook" "text" "LClientMoneyBook$OrderText;").before ([.ref a0] : List Value).toArray s = true := hts _ (List.mem_cons_of_mem _ wm_0_23)
  have iX7 : ∀ w ∈ u_ws RX7 TX7 4, w ∈ aX7_clearText := fun w h => List.mem_cons_of_mem _ (inlX7 w h)
  unfold fX7_clearText at hf
  refine lv_aload_n hx hb dX7_clearText_0 rfl (lv_at hl 0 rfl) ?_
  refine x_get hx hb (C := RX7) (T := TX7) (N := 4) (ci := 7) hts iX7 hown hK hP 0 rfl rfl 2 (by decide) wd0 rfl (.ref t0) rfl dX7_clearText_1 ?_
  obtain ⟨r_1, Xle_2, h_3, hf⟩ := bd2_el hf
  refine x_callVi (As := []) (rest := []) ⟨hx, hb, hml, hown, hts⟩ (mX2_empty l D cy t0 t1 Xle Xch Xpo Xltr Xfi Xse Xth  r_1 Xle_2 h_3) (cwV 0 hts (gcV_X2_empty hbg wm_34_11) rfl rfl rfl kdX2_empty ⟨Nat.le_of_ble_eq_true rfl, Nat.le_of_ble_eq_true rfl⟩) (w1 := [(a0, .inr (7, [.ref s0, .ref (hd 0), .ref t0, .ref k0]))]) (w2 := wX3 cy k0 k1 k2 Ksz Kcl Kke ++ (wX5 cy s0 s1 s2 s3 s4 s5 s6 s7 s8 s9 s10 s11 Asz Anu Aba Amo Aco Hsz Hla Hce Bsz Bla Bce Tma Tlc Ttc day lim low hig thr off cre rcp pay ++ (wX1 cy hd sv nx SL))) (w' := wX7 cy a0 t0 t1 k0 k1 k2 s0 s1 s2 s3 s4 s5 s6 s7 s8 s9 s10 s11 hd Xle_2 Xch Xpo Xltr Xfi Xse Xth Ksz Kcl Kke Asz Anu Aba Amo Aco Hsz Hla Hce Bsz Bla Bce Tma Tlc Ttc day lim low hig thr off cre rcp pay sv nx SL) rfl rfl hP hK hD hN hS hA (q0 := 0) rfl rfl rfl rfl hl rfl (Nat.le_of_ble_eq_true rfl) dX7_clearText_4 ⟨Nat.zero_le _, Nat.zero_le _⟩ (fun H locs hP hD hS => ?_)
  have hf := Option.some.inj hf
  cases hf
  exact x_iret hx hb hr hlocks hK hP hD hS dX7_clearText_7
theorem kdX7_syntaxError : yX7_syntaxError.cls = RX7 ∧ yX7_syntaxError.cls ≠ "java/lang/invoke/MethodHandle" ∧ yX7_syntaxError.cls ≠ "java/lang/invoke/VarHandle" ∧ (parseMethodDescriptor yX7_syntaxError.desc).map (fun d => d.parameters.length) = some 0 := by decide +kernel
def rmX7_syntaxError : Room := { frames := 6, cells := 0, slots := 0, locals := 135 }
set_option maxHeartbeats 4000000 in
set_option maxRecDepth 100000 in
theorem mX7_syntaxError (l : Launch) (D : va_G) (cy : Nat → ClassId) (a0 t0 t1 k0 k1 k2 s0 s1 s2 s3 s4 s5 s6 s7 s8 s9 s10 s11 : Nat) (hd : Nat → Nat) (Xle : Int32) (Xch : Nat → Int32) (Xpo : Int32) (Xltr : Int32) (Xfi : Int32) (Xse : Int32) (Xth : Int32) (Ksz : Int32) (Kcl : Nat → Int32) (Kke : Nat → Int32) (Asz : Int32) (Anu : Nat → Int32) (Aba : Nat → Int32) (Amo : Nat → Int32) (Aco : Nat → Int64) (Hsz : Int32) (Hla : Int32) (Hce : Nat → Int32) (Bsz : Int32) (Bla : Int32) (Bce : Nat → Int32) (Tma : Int32) (Tlc : Int32) (Ttc : Nat → Int32) (day : Int32) (lim : Int32) (low : Int32) (hig : Int32) (thr : Int32) (off : Int64) (cre : Int64) (rcp : Int64) (pay : Int64) (sv : Int32) (nx : Int32) (SL : Nat → XS)  (r : Int32) (hf : fX7_syntaxError Xle Xch = some r) : xMi l D cy yX7_syntaxError aX7_syntaxError rmX7_syntaxError ([.ref a0] : List Value) (wX7 cy a0 t0 t1 k0 k1 k2 s0 s1 s2 s3 s4 s5 s6 s7 s8 s9 s10 s11 hd Xle Xch Xpo Xltr Xfi Xse Xth Ksz Kcl Kke Asz Anu Aba Amo Aco Hsz Hla Hce Bsz Bla Bce Tma Tlc Ttc day lim low hig thr off cre rcp pay sv nx SL) (wX7 cy a0 t0 t1 k0 k1 k2 s0 s1 s2 s3 s4 s5 s6 s7 s8 s9 s10 s11 hd Xle Xch Xpo Xltr Xfi Xse Xth Ksz Kcl Kke Asz Anu Aba Amo Aco Hsz Hla Hce Bsz Bla Bce Tma Tlc Ttc day lim low hig thr off cre rcp pay sv nx SL) r := by
  intro hz
  refine x_start (Qc := xQi D cy _ r) (cc := cX7_syntaxError) (maxL := 1) (ret := (some .int)) (by decide) rfl (Nat.le_of_ble_eq_true rfl) (lv := [(0, .ref a0)]) rfl ?_
  intro p e s m below meth c ls A hx hb hr hml hown hts hlocks hK hP hD hS hA hN hl
  have hown : s.vm.findClass RX7 = some m.cls := hown
  have hbg : ∀ w ∈ wsL_law, w ∈ aX7_syntaxError := fun w h => List.mem_cons_of_mem _ h
  have wd0 : (Cond.fieldLink RX7 26 "ClientMoneyBook" "text" "LClientMoneyBook$OrderText;").before ([.ref a0] : List Value).toArray s = true := hts _ (List.mem_cons_of_mem _ wm_0_23)
  have iX7 : ∀ w ∈ u_ws RX7 TX7 4, w ∈ aX7_syntaxError := fun w h => List.mem_cons_of_mem _ (inlX7 w h)
  unfold fX7_syntaxError at hf
  refine lv_aload_n hx hb dX7_syntaxError_0 rfl (lv_at hl 0 rfl) ?_
  refine x_get hx hb (C := RX7) (T := TX7) (N := 4) (ci := 7) hts iX7 hown hK hP 0 rfl rfl 2 (by decide) wd0 rfl (.ref t0) rfl dX7_syntaxError_1 ?_
  obtain ⟨r_1, h_2, hf⟩ := bd1_el hf
  refine x_callVi (As := []) (rest := []) ⟨hx, hb, hml, hown, hts⟩ (mX2_firstError l D cy t0 t1 Xle Xch Xpo Xltr Xfi Xse Xth  r_1 h_2) (cwV 0 hts (gcV_X2_firstError hbg wm_34_23) rfl rfl rfl kdX2_firstError ⟨Nat.le_of_ble_eq_true rfl, Nat.le_of_ble_eq_true rfl⟩) (w1 := [(a0, .inr (7, [.ref s0, .ref (hd 0), .ref t0, .ref k0]))]) (w2 := wX3 cy k0 k1 k2 Ksz Kcl Kke ++ (wX5 cy s0 s1 s2 s3 s4 s5 s6 s7 s8 s9 s10 s11 Asz Anu Aba Amo Aco Hsz Hla Hce Bsz Bla Bce Tma Tlc Ttc day lim low hig thr off cre rcp pay ++ (wX1 cy hd sv nx SL))) (w' := wX7 cy a0 t0 t1 k0 k1 k2 s0 s1 s2 s3 s4 s5 s6 s7 s8 s9 s10 s11 hd Xle Xch Xpo Xltr Xfi Xse Xth Ksz Kcl Kke Asz Anu Aba Amo Aco Hsz Hla Hce Bsz Bla Bce Tma Tlc Ttc day lim low hig thr off cre rcp pay sv nx SL) rfl rfl hP hK hD hN hS hA (q0 := 0) rfl rfl rfl rfl hl rfl (Nat.le_of_ble_eq_true rfl) dX7_syntaxError_4 ⟨Nat.zero_le _, Nat.zero_le _⟩ (fun H locs hP hD hS => ?_)
  have hf := Option.some.inj hf
  cases hf
  exact x_iret hx hb hr hlocks hK hP hD hS dX7_syntaxError_7
theorem kdX7_carryOutOrder : yX7_carryOutOrder.cls = RX7 ∧ yX7_carryOutOrder.cls ≠ "java/lang/invoke/MethodHandle" ∧ yX7_carryOutOrder.cls ≠ "java/lang/invoke/VarHandle" ∧ (parseMethodDescriptor yX7_carryOutOrder.desc).map (fun d => d.parameters.length) = some 0 := by decide +kernel
def rmX7_carryOutOrder : Room := { frames := 6, cells := 0, slots := 0, locals := 143 }
set_option maxHeartbeats 4000000 in
set_option maxRecDepth 100000 in
theorem mX7_carryOutOrder (l : Launch) (D : va_G) (cy : Nat → ClassId) (a0 t0 t1 k0 k1 k2 s0 s1 s2 s3 s4 s5 s6 s7 s8 s9 s10 s11 : Nat) (hd : Nat → Nat) (Xle : Int32) (Xch : Nat → Int32) (Xpo : Int32) (Xltr : Int32) (Xfi : Int32) (Xse : Int32) (Xth : Int32) (Ksz : Int32) (Kcl : Nat → Int32) (Kke : Nat → Int32) (Asz : Int32) (Anu : Nat → Int32) (Aba : Nat → Int32) (Amo : Nat → Int32) (Aco : Nat → Int64) (Hsz : Int32) (Hla : Int32) (Hce : Nat → Int32) (Bsz : Int32) (Bla : Int32) (Bce : Nat → Int32) (Tma : Int32) (Tlc : Int32) (Ttc : Nat → Int32) (day : Int32) (lim : Int32) (low : Int32) (hig : Int32) (thr : Int32) (off : Int64) (cre : Int64) (rcp : Int64) (pay : Int64) (sv : Int32) (nx : Int32) (SL : Nat → XS)  (r : Int64) (Aba' : Nat → Int32) (Amo' : Nat → Int32) (Aco' : Nat → Int64) (Hsz' : Int32) (Hce' : Nat → Int32) (Bsz' : Int32) (Bla' : Int32) (Bce' : Nat → Int32) (Tma' : Int32) (Tlc' : Int32) (Ttc' : Nat → Int32) (day' : Int32) (off' : Int64) (cre' : Int64) (rcp' : Int64) (pay' : Int64) (hf : fX7_carryOutOrder Xltr Xfi Xse Xth Asz Anu Aba Amo Aco Hsz Hce Bsz Bla Bce Tma Tlc Ttc day lim low hig thr off cre rcp pay = some (r, Aba', Amo', Aco', Hsz', Hce', Bsz', Bla', Bce', Tma', Tlc', Ttc', day', off', cre', rcp', pay')) : xMl l D cy yX7_carryOutOrder aX7_carryOutOrder rmX7_carryOutOrder ([.ref a0] : List Value) (wX7 cy a0 t0 t1 k0 k1 k2 s0 s1 s2 s3 s4 s5 s6 s7 s8 s9 s10 s11 hd Xle Xch Xpo Xltr Xfi Xse Xth Ksz Kcl Kke Asz Anu Aba Amo Aco Hsz Hla Hce Bsz Bla Bce Tma Tlc Ttc day lim low hig thr off cre rcp pay sv nx SL) (wX7 cy a0 t0 t1 k0 k1 k2 s0 s1 s2 s3 s4 s5 s6 s7 s8 s9 s10 s11 hd Xle Xch Xpo Xltr Xfi Xse Xth Ksz Kcl Kke Asz Anu Aba' Amo' Aco' Hsz' Hla Hce' Bsz' Bla' Bce' Tma' Tlc' Ttc' day' lim low hig thr off' cre' rcp' pay' sv nx SL) r := by
  intro hz
  refine x_start (Qc := xQl D cy _ r) (cc := cX7_carryOutOrder) (maxL := 1) (ret := (some .long)) (by decide) rfl (Nat.le_of_ble_eq_true rfl) (lv := [(0, .ref a0)]) rfl ?_
  intro p e s m below meth c ls A hx hb hr hml hown hts hlocks hK hP hD hS hA hN hl
  have hown : s.vm.findClass RX7 = some m.cls := hown
  have hbg : ∀ w ∈ wsL_law, w ∈ aX7_carryOutOrder := fun w h => List.mem_cons_of_mem _ h
  have wd0 : (Cond.fieldLink RX7 26 "ClientMoneyBook" "text" "LClientMoneyBook$OrderText;").before ([.ref a0] : List Value).toArray s = true := hts _ (List.mem_cons_of_mem _ wm_0_23)
  have wd1 : (Cond.fieldLink RX7 231 "ClientMoneyBook$OrderText" "letter" "C").before ([.ref a0] : List Value).toArray s = true := hts _ (List.mem_cons_of_mem _ wm_41_5)
  have wd2 : (Cond.fieldLink RX7 10 "ClientMoneyBook" "state" "LClientMoneyBook$State;").before ([.ref a0] : List Value).toArray s = true := hts _ (List.mem_cons_of_mem _ wm_0_15)
  have wd3 : (Cond.fieldLink RX7 235 "ClientMoneyBook$OrderText" "first" "I").before ([.ref a0] : List Value).toArray s = true := hts _ (List.mem_cons_of_mem _ wm_41_6)
  have wd4 : (Cond.fieldLink RX7 238 "ClientMoneyBook$OrderText" "second" "I").before ([.ref a0] : List Value).toArray s = true := hts _ (List.mem_cons_of_mem _ wm_41_7)
  have wd5 : (Cond.constantLong RX7 244 (-5)).before ([.ref a0] : List Value).toArray s = true := hts _ (List.mem_cons_of_mem _ wm_41_9)
  have wd6 : (Cond.fieldLink RX7 241 "ClientMoneyBook$OrderText" "third" "I").before ([.ref a0] : List Value).toArray s = true := hts _ (List.mem_cons_of_mem _ wm_41_8)
  have iX2 : ∀ w ∈ u_ws RX2 TX2 7, w ∈ aX7_carryOutOrder := fun w h => List.mem_cons_of_mem _ (inlX2 w h)
  have iX7 : ∀ w ∈ u_ws RX7 TX7 4, w ∈ aX7_carryOutOrder := fun w h => List.mem_cons_of_mem _ (inlX7 w h)
  unfold fX7_carryOutOrder at hf
  refine lv_aload_n hx hb dX7_carryOutOrder_0 rfl (lv_at hl 0 rfl) ?_
  refine x_get hx hb (C := RX7) (T := TX7) (N := 4) (ci := 7) hts iX7 hown hK hP 0 rfl rfl 2 (by decide) wd0 rfl (.ref t0) rfl dX7_carryOutOrder_1 ?_
  refine x_get hx hb (C := RX2) (T := TX2) (N := 7) (ci := 2) hts iX2 hown hK hP 1 rfl rfl 3 (by decide) wd1 rfl (.int Xltr) rfl dX7_carryOutOrder_4 ?_
  by_cases s_1 : Xltr = 98
  · have hf := x_t s_1 hf
    have s_1i : Xltr.toInt = 98 := by rw [s_1]; rfl
    refine lv_tableIn (tgt := 172) (off := 165) hx hb dX7_carryOutOrder_7 (by rw [s_1i]; decide) (by rw [s_1i]; decide) (by rw [s_1i]; rfl) (by decide) ?_
    refine lv_aload_n hx hb dX7_carryOutOrder_172 rfl (lv_at hl 0 rfl) ?_
    refine x_get hx hb (C := RX7) (T := TX7) (N := 4) (ci := 7) hts iX7 hown hK hP 0 rfl rfl 0 (by decide) wd2 rfl (.ref s0) rfl dX7_carryOutOrder_173 ?_
    refine lv_aload_n hx hb dX7_carryOutOrder_176 rfl (lv_at hl 0 rfl) ?_
    refine x_get hx hb (C := RX7) (T := TX7) (N := 4) (ci := 7) hts iX7 hown hK hP 0 rfl rfl 2 (by decide) wd0 rfl (.ref t0) rfl dX7_carryOutOrder_177 ?_
    refine x_get hx hb (C := RX2) (T := TX2) (N := 7) (ci := 2) hts iX2 hown hK hP 1 rfl rfl 4 (by decide) wd3 rfl (.int Xfi) rfl dX7_carryOutOrder_180 ?_
    refine lv_aload_n hx hb dX7_carryOutOrder_183 rfl (lv_at hl 0 rfl) ?_
    refine x_get hx hb (C := RX7) (T := TX7) (N := 4) (ci := 7) hts iX7 hown hK hP 0 rfl rfl 2 (by decide) wd0 rfl (.ref t0) rfl dX7_carryOutOrder_184 ?_
    refine x_get hx hb (C := RX2) (T := TX2) (N := 7) (ci := 2) hts iX2 hown hK hP 1 rfl rfl 5 (by decide) wd4 rfl (.int Xse) rfl dX7_carryOutOrder_187 ?_
    obtain ⟨r_2, Bsz_3, Bla_4, Bce_5, h_6, hf⟩ := bd4_el hf
    refine x_callVi (As := [.int Xfi, .int Xse]) (rest := []) ⟨hx, hb, hml, hown, hts⟩ (mX5_writeBill l D cy s0 s1 s2 s3 s4 s5 s6 s7 s8 s9 s10 s11 Asz Anu Aba Amo Aco Hsz Hla Hce Bsz Bla Bce Tma Tlc Ttc day lim low hig thr off cre rcp pay Xfi Xse r_2 Bsz_3 Bla_4 Bce_5 h_6) (cwV 2 hts (gcV_X5_writeBill hbg wm_19_10) rfl rfl rfl kdX5_writeBill ⟨Nat.le_of_ble_eq_true rfl, Nat.le_of_ble_eq_true rfl⟩) (w1 := [(a0, .inr (7, [.ref s0, .ref (hd 0), .ref t0, .ref k0]))] ++ (wX2 cy t0 t1 Xle Xch Xpo Xltr Xfi Xse Xth ++ (wX3 cy k0 k1 k2 Ksz Kcl Kke))) (w2 := wX1 cy hd sv nx SL) (w' := wX7 cy a0 t0 t1 k0 k1 k2 s0 s1 s2 s3 s4 s5 s6 s7 s8 s9 s10 s11 hd Xle Xch Xpo Xltr Xfi Xse Xth Ksz Kcl Kke Asz Anu Aba Amo Aco Hsz Hla Hce Bsz_3 Bla_4 Bce_5 Tma Tlc Ttc day lim low hig thr off cre rcp pay sv nx SL) rfl rfl hP hK hD hN hS hA (q0 := 0) rfl rfl rfl rfl hl rfl (Nat.le_of_ble_eq_true rfl) dX7_carryOutOrder_190 ⟨Nat.zero_le _, Nat.zero_le _⟩ (fun H locs hP hD hS => ?_)
    refine lv_i2l (v := r_2.toInt64) hx hb dX7_carryOutOrder_193 rfl ?_
    have hf := Option.some.inj hf
    cases hf
    exact x_lret hx hb hr hlocks hK hP hD hS dX7_carryOutOrder_194
  · have hf := x_f s_1 hf
    by_cases s_7 : Xltr = 99
    · have hf := x_t s_7 hf
      have s_7i : Xltr.toInt = 99 := by rw [s_7]; rfl
      refine lv_tableIn (tgt := 226) (off := 219) hx hb dX7_carryOutOrder_7 (by rw [s_7i]; decide) (by rw [s_7i]; decide) (by rw [s_7i]; rfl) (by decide) ?_
      refine lv_ldc2 hx hb hown wd5 dX7_carryOutOrder_226 ?_
      have hf := Option.some.inj hf
      cases hf
      exact x_lret hx hb hr hlocks hK hP hD hS dX7_carryOutOrder_229
    · have hf := x_f s_7 hf
      by_cases s_8 : Xltr = 100
      · have hf := x_t s_8 hf
        have s_8i : Xltr.toInt = 100 := by rw [s_8]; rfl
        refine lv_tableIn (tgt := 211) (off := 204) hx hb dX7_carryOutOrder_7 (by rw [s_8i]; decide) (by rw [s_8i]; decide) (by rw [s_8i]; rfl) (by decide) ?_
        refine lv_aload_n hx hb dX7_carryOutOrder_211 rfl (lv_at hl 0 rfl) ?_
        refine x_get hx hb (C := RX7) (T := TX7) (N := 4) (ci := 7) hts iX7 hown hK hP 0 rfl rfl 0 (by decide) wd2 rfl (.ref s0) rfl dX7_carryOutOrder_212 ?_
        refine lv_aload_n hx hb dX7_carryOutOrder_215 rfl (lv_at hl 0 rfl) ?_
        refine x_get hx hb (C := RX7) (T := TX7) (N := 4) (ci := 7) hts iX7 hown hK hP 0 rfl rfl 2 (by decide) wd0 rfl (.ref t0) rfl dX7_carryOutOrder_216 ?_
        refine x_get hx hb (C := RX2) (T := TX2) (N := 7) (ci := 2) hts iX2 hown hK hP 1 rfl rfl 4 (by decide) wd3 rfl (.int Xfi) rfl dX7_carryOutOrder_219 ?_
        obtain ⟨r_9, Aba_10, Amo_11, Aco_12, Hsz_13, Hce_14, Tma_15, Tlc_16, Ttc_17, day_18, cre_19, h_20, hf⟩ := bd11_el hf
        refine x_callVl (As := [.int Xfi]) (rest := []) ⟨hx, hb, hml, hown, hts⟩ (mX5_letPass l D cy s0 s1 s2 s3 s4 s5 s6 s7 s8 s9 s10 s11 Asz Anu Aba Amo Aco Hsz Hla Hce Bsz Bla Bce Tma Tlc Ttc day lim low hig thr off cre rcp pay Xfi r_9 Aba_10 Amo_11 Aco_12 Hsz_13 Hce_14 Tma_15 Tlc_16 Ttc_17 day_18 cre_19 h_20) (cwV 1 hts (gcV_X5_letPass hbg wm_21_8) rfl rfl rfl kdX5_letPass ⟨Nat.le_of_ble_eq_true rfl, Nat.le_of_ble_eq_true rfl⟩) (w1 := [(a0, .inr (7, [.ref s0, .ref (hd 0), .ref t0, .ref k0]))] ++ (wX2 cy t0 t1 Xle Xch Xpo Xltr Xfi Xse Xth ++ (wX3 cy k0 k1 k2 Ksz Kcl Kke))) (w2 := wX1 cy hd sv nx SL) (w' := wX7 cy a0 t0 t1 k0 k1 k2 s0 s1 s2 s3 s4 s5 s6 s7 s8 s9 s10 s11 hd Xle Xch Xpo Xltr Xfi Xse Xth Ksz Kcl Kke Asz Anu Aba_10 Amo_11 Aco_12 Hsz_13 Hla Hce_14 Bsz Bla Bce Tma_15 Tlc_16 Ttc_17 day_18 lim low hig thr off cre_19 rcp pay sv nx SL) rfl rfl hP hK hD hN hS hA (q0 := 0) rfl rfl rfl rfl hl rfl (Nat.le_of_ble_eq_true rfl) dX7_carryOutOrder_222 ⟨Nat.zero_le _, Nat.zero_le _⟩ (fun H locs hP hD hS => ?_)
        have hf := Option.some.inj hf
        cases hf
        exact x_lret hx hb hr hlocks hK hP hD hS dX7_carryOutOrder_225
      · have hf := x_f s_8 hf
        by_cases s_21 : Xltr = 101
        · have hf := x_t s_21 hf
          have s_21i : Xltr.toInt = 101 := by rw [s_21]; rfl
          refine lv_tableIn (tgt := 226) (off := 219) hx hb dX7_carryOutOrder_7 (by rw [s_21i]; decide) (by rw [s_21i]; decide) (by rw [s_21i]; rfl) (by decide) ?_
          refine lv_ldc2 hx hb hown wd5 dX7_carryOutOrder_226 ?_
          have hf := Option.some.inj hf
          cases hf
          exact x_lret hx hb hr hlocks hK hP hD hS dX7_carryOutOrder_229
        · have hf := x_f s_21 hf
          by_cases s_22 : Xltr = 102
          · have hf := x_t s_22 hf
            have s_22i : Xltr.toInt = 102 := by rw [s_22]; rfl
            refine lv_tableIn (tgt := 226) (off := 219) hx hb dX7_carryOutOrder_7 (by rw [s_22i]; decide) (by rw [s_22i]; decide) (by rw [s_22i]; rfl) (by decide) ?_
            refine lv_ldc2 hx hb hown wd5 dX7_carryOutOrder_226 ?_
            have hf := Option.some.inj hf
            cases hf
            exact x_lret hx hb hr hlocks hK hP hD hS dX7_carryOutOrder_229
          · have hf := x_f s_22 hf
            by_cases s_23 : Xltr = 103
            · have hf := x_t s_23 hf
              have s_23i : Xltr.toInt = 103 := by rw [s_23]; rfl
              refine lv_tableIn (tgt := 226) (off := 219) hx hb dX7_carryOutOrder_7 (by rw [s_23i]; decide) (by rw [s_23i]; decide) (by rw [s_23i]; rfl) (by decide) ?_
              refine lv_ldc2 hx hb hown wd5 dX7_carryOutOrder_226 ?_
              have hf := Option.some.inj hf
              cases hf
              exact x_lret hx hb hr hlocks hK hP hD hS dX7_carryOutOrder_229
            · have hf := x_f s_23 hf
              by_cases s_24 : Xltr = 104
              · have hf := x_t s_24 hf
                have s_24i : Xltr.toInt = 104 := by rw [s_24]; rfl
                refine lv_tableIn (tgt := 226) (off := 219) hx hb dX7_carryOutOrder_7 (by rw [s_24i]; decide) (by rw [s_24i]; decide) (by rw [s_24i]; rfl) (by decide) ?_
                refine lv_ldc2 hx hb hown wd5 dX7_carryOutOrder_226 ?_
                have hf := Option.some.inj hf
                cases hf
                exact x_lret hx hb hr hlocks hK hP hD hS dX7_carryOutOrder_229
              · have hf := x_f s_24 hf
                by_cases s_25 : Xltr = 105
                · have hf := x_t s_25 hf
                  have s_25i : Xltr.toInt = 105 := by rw [s_25]; rfl
                  refine lv_tableIn (tgt := 226) (off := 219) hx hb dX7_carryOutOrder_7 (by rw [s_25i]; decide) (by rw [s_25i]; decide) (by rw [s_25i]; rfl) (by decide) ?_
                  refine lv_ldc2 hx hb hown wd5 dX7_carryOutOrder_226 ?_
                  have hf := Option.some.inj hf
                  cases hf
                  exact x_lret hx hb hr hlocks hK hP hD hS dX7_carryOutOrder_229
                · have hf := x_f s_25 hf
                  by_cases s_26 : Xltr = 106
                  · have hf := x_t s_26 hf
                    have s_26i : Xltr.toInt = 106 := by rw [s_26]; rfl
                    refine lv_tableIn (tgt := 226) (off := 219) hx hb dX7_carryOutOrder_7 (by rw [s_26i]; decide) (by rw [s_26i]; decide) (by rw [s_26i]; rfl) (by decide) ?_
                    refine lv_ldc2 hx hb hown wd5 dX7_carryOutOrder_226 ?_
                    have hf := Option.some.inj hf
                    cases hf
                    exact x_lret hx hb hr hlocks hK hP hD hS dX7_carryOutOrder_229
                  · have hf := x_f s_26 hf
                    by_cases s_27 : Xltr = 107
                    · have hf := x_t s_27 hf
                      have s_27i : Xltr.toInt = 107 := by rw [s_27]; rfl
                      refine lv_tableIn (tgt := 226) (off := 219) hx hb dX7_carryOutOrder_7 (by rw [s_27i]; decide) (by rw [s_27i]; decide) (by rw [s_27i]; rfl) (by decide) ?_
                      refine lv_ldc2 hx hb hown wd5 dX7_carryOutOrder_226 ?_
                      have hf := Option.some.inj hf
                      cases hf
                      exact x_lret hx hb hr hlocks hK hP hD hS dX7_carryOutOrder_229
                    · have hf := x_f s_27 hf
                      by_cases s_28 : Xltr = 108
                      · have hf := x_t s_28 hf
                        have s_28i : Xltr.toInt = 108 := by rw [s_28]; rfl
                        refine lv_tableIn (tgt := 226) (off := 219) hx hb dX7_carryOutOrder_7 (by rw [s_28i]; decide) (by rw [s_28i]; decide) (by rw [s_28i]; rfl) (by decide) ?_
                        refine lv_ldc2 hx hb hown wd5 dX7_carryOutOrder_226 ?_
                        have hf := Option.some.inj hf
                        cases hf
                        exact x_lret hx hb hr hlocks hK hP hD hS dX7_carryOutOrder_229
                      · have hf := x_f s_28 hf
                        by_cases s_29 : Xltr = 109
                        · have hf := x_t s_29 hf
                          have s_29i : Xltr.toInt = 109 := by rw [s_29]; rfl
                          refine lv_tableIn (tgt := 226) (off := 219) hx hb dX7_carryOutOrder_7 (by rw [s_29i]; decide) (by rw [s_29i]; decide) (by rw [s_29i]; rfl) (by decide) ?_
                          refine lv_ldc2 hx hb hown wd5 dX7_carryOutOrder_226 ?_
                          have hf := Option.some.inj hf
                          cases hf
                          exact x_lret hx hb hr hlocks hK hP hD hS dX7_carryOutOrder_229
                        · have hf := x_f s_29 hf
                          by_cases s_30 : Xltr = 110
                          · have hf := x_t s_30 hf
                            have s_30i : Xltr.toInt = 110 := by rw [s_30]; rfl
                            refine lv_tableIn (tgt := 226) (off := 219) hx hb dX7_carryOutOrder_7 (by rw [s_30i]; decide) (by rw [s_30i]; decide) (by rw [s_30i]; rfl) (by decide) ?_
                            refine lv_ldc2 hx hb hown wd5 dX7_carryOutOrder_226 ?_
                            have hf := Option.some.inj hf
                            cases hf
                            exact x_lret hx hb hr hlocks hK hP hD hS dX7_carryOutOrder_229
                          · have hf := x_f s_30 hf
                            by_cases s_31 : Xltr = 111
                            · have hf := x_t s_31 hf
                              have s_31i : Xltr.toInt = 111 := by rw [s_31]; rfl
                              refine lv_tableIn (tgt := 226) (off := 219) hx hb dX7_carryOutOrder_7 (by rw [s_31i]; decide) (by rw [s_31i]; decide) (by rw [s_31i]; rfl) (by decide) ?_
                              refine lv_ldc2 hx hb hown wd5 dX7_carryOutOrder_226 ?_
                              have hf := Option.some.inj hf
                              cases hf
                              exact x_lret hx hb hr hlocks hK hP hD hS dX7_carryOutOrder_229
                            · have hf := x_f s_31 hf
                              by_cases s_32 : Xltr = 112
                              · have hf := x_t s_32 hf
                                have s_32i : Xltr.toInt = 112 := by rw [s_32]; rfl
                                refine lv_tableIn (tgt := 119) (off := 112) hx hb dX7_carryOutOrder_7 (by rw [s_32i]; decide) (by rw [s_32i]; decide) (by rw [s_32i]; rfl) (by decide) ?_
                                refine lv_aload_n hx hb dX7_carryOutOrder_119 rfl (lv_at hl 0 rfl) ?_
                                refine x_get hx hb (C := RX7) (T := TX7) (N := 4) (ci := 7) hts iX7 hown hK hP 0 rfl rfl 0 (by decide) wd2 rfl (.ref s0) rfl dX7_carryOutOrder_120 ?_
                                refine lv_aload_n hx hb dX7_carryOutOrder_123 rfl (lv_at hl 0 rfl) ?_
                                refine x_get hx hb (C := RX7) (T := TX7) (N := 4) (ci := 7) hts iX7 hown hK hP 0 rfl rfl 2 (by decide) wd0 rfl (.ref t0) rfl dX7_carryOutOrder_124 ?_
                                refine x_get hx hb (C := RX2) (T := TX2) (N := 7) (ci := 2) hts iX2 hown hK hP 1 rfl rfl 4 (by decide) wd3 rfl (.int Xfi) rfl dX7_carryOutOrder_127 ?_
                                refine lv_aload_n hx hb dX7_carryOutOrder_130 rfl (lv_at hl 0 rfl) ?_
                                refine x_get hx hb (C := RX7) (T := TX7) (N := 4) (ci := 7) hts iX7 hown hK hP 0 rfl rfl 2 (by decide) wd0 rfl (.ref t0) rfl dX7_carryOutOrder_131 ?_
                                refine x_get hx hb (C := RX2) (T := TX2) (N := 7) (ci := 2) hts iX2 hown hK hP 1 rfl rfl 5 (by decide) wd4 rfl (.int Xse) rfl dX7_carryOutOrder_134 ?_
                                obtain ⟨r_33, Aba_34, Amo_35, Tma_36, Tlc_37, Ttc_38, pay_39, h_40, hf⟩ := bd7_el hf
                                refine x_callVi (As := [.int Xfi, .int Xse]) (rest := []) ⟨hx, hb, hml, hown, hts⟩ (mX5_makePayment l D cy s0 s1 s2 s3 s4 s5 s6 s7 s8 s9 s10 s11 Asz Anu Aba Amo Aco Hsz Hla Hce Bsz Bla Bce Tma Tlc Ttc day lim low hig thr off cre rcp pay Xfi Xse r_33 Aba_34 Amo_35 Tma_36 Tlc_37 Ttc_38 pay_39 h_40) (cwV 2 hts (gcV_X5_makePayment hbg wm_14_11) rfl rfl rfl kdX5_makePayment ⟨Nat.le_of_ble_eq_true rfl, Nat.le_of_ble_eq_true rfl⟩) (w1 := [(a0, .inr (7, [.ref s0, .ref (hd 0), .ref t0, .ref k0]))] ++ (wX2 cy t0 t1 Xle Xch Xpo Xltr Xfi Xse Xth ++ (wX3 cy k0 k1 k2 Ksz Kcl Kke))) (w2 := wX1 cy hd sv nx SL) (w' := wX7 cy a0 t0 t1 k0 k1 k2 s0 s1 s2 s3 s4 s5 s6 s7 s8 s9 s10 s11 hd Xle Xch Xpo Xltr Xfi Xse Xth Ksz Kcl Kke Asz Anu Aba_34 Amo_35 Aco Hsz Hla Hce Bsz Bla Bce Tma_36 Tlc_37 Ttc_38 day lim low hig thr off cre rcp pay_39 sv nx SL) rfl rfl hP hK hD hN hS hA (q0 := 0) rfl rfl rfl rfl hl rfl (Nat.le_of_ble_eq_true rfl) dX7_carryOutOrder_137 ⟨Nat.zero_le _, Nat.zero_le _⟩ (fun H locs hP hD hS => ?_)
                                refine lv_i2l (v := r_33.toInt64) hx hb dX7_carryOutOrder_140 rfl ?_
                                have hf := Option.some.inj hf
                                cases hf
                                exact x_lret hx hb hr hlocks hK hP hD hS dX7_carryOutOrder_141
                              · have hf := x_f s_32 hf
                                by_cases s_41 : Xltr = 113
                                · have hf := x_t s_41 hf
                                  have s_41i : Xltr.toInt = 113 := by rw [s_41]; rfl
                                  refine lv_tableIn (tgt := 226) (off := 219) hx hb dX7_carryOutOrder_7 (by rw [s_41i]; decide) (by rw [s_41i]; decide) (by rw [s_41i]; rfl) (by decide) ?_
                                  refine lv_ldc2 hx hb hown wd5 dX7_carryOutOrder_226 ?_
                                  have hf := Option.some.inj hf
                                  cases hf
                                  exact x_lret hx hb hr hlocks hK hP hD hS dX7_carryOutOrder_229
                                · have hf := x_f s_41 hf
                                  by_cases s_42 : Xltr = 114
                                  · have hf := x_t s_42 hf
                                    have s_42i : Xltr.toInt = 114 := by rw [s_42]; rfl
                                    refine lv_tableIn (tgt := 96) (off := 89) hx hb dX7_carryOutOrder_7 (by rw [s_42i]; decide) (by rw [s_42i]; decide) (by rw [s_42i]; rfl) (by decide) ?_
                                    refine lv_aload_n hx hb dX7_carryOutOrder_96 rfl (lv_at hl 0 rfl) ?_
                                    refine x_get hx hb (C := RX7) (T := TX7) (N := 4) (ci := 7) hts iX7 hown hK hP 0 rfl rfl 0 (by decide) wd2 rfl (.ref s0) rfl dX7_carryOutOrder_97 ?_
                                    refine lv_aload_n hx hb dX7_carryOutOrder_100 rfl (lv_at hl 0 rfl) ?_
                                    refine x_get hx hb (C := RX7) (T := TX7) (N := 4) (ci := 7) hts iX7 hown hK hP 0 rfl rfl 2 (by decide) wd0 rfl (.ref t0) rfl dX7_carryOutOrder_101 ?_
                                    refine x_get hx hb (C := RX2) (T := TX2) (N := 7) (ci := 2) hts iX2 hown hK hP 1 rfl rfl 4 (by decide) wd3 rfl (.int Xfi) rfl dX7_carryOutOrder_104 ?_
                                    refine lv_aload_n hx hb dX7_carryOutOrder_107 rfl (lv_at hl 0 rfl) ?_
                                    refine x_get hx hb (C := RX7) (T := TX7) (N := 4) (ci := 7) hts iX7 hown hK hP 0 rfl rfl 2 (by decide) wd0 rfl (.ref t0) rfl dX7_carryOutOrder_108 ?_
                                    refine x_get hx hb (C := RX2) (T := TX2) (N := 7) (ci := 2) hts iX2 hown hK hP 1 rfl rfl 5 (by decide) wd4 rfl (.int Xse) rfl dX7_carryOutOrder_111 ?_
                                    obtain ⟨r_43, Aba_44, Amo_45, Tma_46, Tlc_47, Ttc_48, rcp_49, h_50, hf⟩ := bd7_el hf
                                    refine x_callVi (As := [.int Xfi, .int Xse]) (rest := []) ⟨hx, hb, hml, hown, hts⟩ (mX5_takeReceipt l D cy s0 s1 s2 s3 s4 s5 s6 s7 s8 s9 s10 s11 Asz Anu Aba Amo Aco Hsz Hla Hce Bsz Bla Bce Tma Tlc Ttc day lim low hig thr off cre rcp pay Xfi Xse r_43 Aba_44 Amo_45 Tma_46 Tlc_47 Ttc_48 rcp_49 h_50) (cwV 2 hts (gcV_X5_takeReceipt hbg wm_11_9) rfl rfl rfl kdX5_takeReceipt ⟨Nat.le_of_ble_eq_true rfl, Nat.le_of_ble_eq_true rfl⟩) (w1 := [(a0, .inr (7, [.ref s0, .ref (hd 0), .ref t0, .ref k0]))] ++ (wX2 cy t0 t1 Xle Xch Xpo Xltr Xfi Xse Xth ++ (wX3 cy k0 k1 k2 Ksz Kcl Kke))) (w2 := wX1 cy hd sv nx SL) (w' := wX7 cy a0 t0 t1 k0 k1 k2 s0 s1 s2 s3 s4 s5 s6 s7 s8 s9 s10 s11 hd Xle Xch Xpo Xltr Xfi Xse Xth Ksz Kcl Kke Asz Anu Aba_44 Amo_45 Aco Hsz Hla Hce Bsz Bla Bce Tma_46 Tlc_47 Ttc_48 day lim low hig thr off cre rcp_49 pay sv nx SL) rfl rfl hP hK hD hN hS hA (q0 := 0) rfl rfl rfl rfl hl rfl (Nat.le_of_ble_eq_true rfl) dX7_carryOutOrder_114 ⟨Nat.zero_le _, Nat.zero_le _⟩ (fun H locs hP hD hS => ?_)
                                    refine lv_i2l (v := r_43.toInt64) hx hb dX7_carryOutOrder_117 rfl ?_
                                    have hf := Option.some.inj hf
                                    cases hf
                                    exact x_lret hx hb hr hlocks hK hP hD hS dX7_carryOutOrder_118
                                  · have hf := x_f s_42 hf
                                    by_cases s_51 : Xltr = 115
                                    · have hf := x_t s_51 hf
                                      have s_51i : Xltr.toInt = 115 := by rw [s_51]; rfl
                                      refine lv_tableIn (tgt := 195) (off := 188) hx hb dX7_carryOutOrder_7 (by rw [s_51i]; decide) (by rw [s_51i]; decide) (by rw [s_51i]; rfl) (by decide) ?_
                                      refine lv_aload_n hx hb dX7_carryOutOrder_195 rfl (lv_at hl 0 rfl) ?_
                                      refine x_get hx hb (C := RX7) (T := TX7) (N := 4) (ci := 7) hts iX7 hown hK hP 0 rfl rfl 0 (by decide) wd2 rfl (.ref s0) rfl dX7_carryOutOrder_196 ?_
                                      refine lv_aload_n hx hb dX7_carryOutOrder_199 rfl (lv_at hl 0 rfl) ?_
                                      refine x_get hx hb (C := RX7) (T := TX7) (N := 4) (ci := 7) hts iX7 hown hK hP 0 rfl rfl 2 (by decide) wd0 rfl (.ref t0) rfl dX7_carryOutOrder_200 ?_
                                      refine x_get hx hb (C := RX2) (T := TX2) (N := 7) (ci := 2) hts iX2 hown hK hP 1 rfl rfl 4 (by decide) wd3 rfl (.int Xfi) rfl dX7_carryOutOrder_203 ?_
                                      obtain ⟨r_52, Aba_53, Amo_54, Bsz_55, Bce_56, Tma_57, Tlc_58, Ttc_59, off_60, h_61, hf⟩ := bd9_el hf
                                      refine x_callVi (As := [.int Xfi]) (rest := []) ⟨hx, hb, hml, hown, hts⟩ (mX5_settleBill l D cy s0 s1 s2 s3 s4 s5 s6 s7 s8 s9 s10 s11 Asz Anu Aba Amo Aco Hsz Hla Hce Bsz Bla Bce Tma Tlc Ttc day lim low hig thr off cre rcp pay Xfi r_52 Aba_53 Amo_54 Bsz_55 Bce_56 Tma_57 Tlc_58 Ttc_59 off_60 h_61) (cwV 1 hts (gcV_X5_settleBill hbg wm_20_6) rfl rfl rfl kdX5_settleBill ⟨Nat.le_of_ble_eq_true rfl, Nat.le_of_ble_eq_true rfl⟩) (w1 := [(a0, .inr (7, [.ref s0, .ref (hd 0), .ref t0, .ref k0]))] ++ (wX2 cy t0 t1 Xle Xch Xpo Xltr Xfi Xse Xth ++ (wX3 cy k0 k1 k2 Ksz Kcl Kke))) (w2 := wX1 cy hd sv nx SL) (w' := wX7 cy a0 t0 t1 k0 k1 k2 s0 s1 s2 s3 s4 s5 s6 s7 s8 s9 s10 s11 hd Xle Xch Xpo Xltr Xfi Xse Xth Ksz Kcl Kke Asz Anu Aba_53 Amo_54 Aco Hsz Hla Hce Bsz_55 Bla Bce_56 Tma_57 Tlc_58 Ttc_59 day lim low hig thr off_60 cre rcp pay sv nx SL) rfl rfl hP hK hD hN hS hA (q0 := 0) rfl rfl rfl rfl hl rfl (Nat.le_of_ble_eq_true rfl) dX7_carryOutOrder_206 ⟨Nat.zero_le _, Nat.zero_le _⟩ (fun H locs hP hD hS => ?_)
                                      refine lv_i2l (v := r_52.toInt64) hx hb dX7_carryOutOrder_209 rfl ?_
                                      have hf := Option.some.inj hf
                                      cases hf
                                      exact x_lret hx hb hr hlocks hK hP hD hS dX7_carryOutOrder_210
                                    · have hf := x_f s_51 hf
                                      by_cases s_62 : Xltr = 116
                                      · have hf := x_t s_62 hf
                                        have s_62i : Xltr.toInt = 116 := by rw [s_62]; rfl
                                        refine lv_tableIn (tgt := 142) (off := 135) hx hb dX7_carryOutOrder_7 (by rw [s_62i]; decide) (by rw [s_62i]; decide) (by rw [s_62i]; rfl) (by decide) ?_
                                        refine lv_aload_n hx hb dX7_carryOutOrder_142 rfl (lv_at hl 0 rfl) ?_
                                        refine x_get hx hb (C := RX7) (T := TX7) (N := 4) (ci := 7) hts iX7 hown hK hP 0 rfl rfl 0 (by decide) wd2 rfl (.ref s0) rfl dX7_carryOutOrder_143 ?_
                                        refine lv_aload_n hx hb dX7_carryOutOrder_146 rfl (lv_at hl 0 rfl) ?_
                                        refine x_get hx hb (C := RX7) (T := TX7) (N := 4) (ci := 7) hts iX7 hown hK hP 0 rfl rfl 2 (by decide) wd0 rfl (.ref t0) rfl dX7_carryOutOrder_147 ?_
                                        refine x_get hx hb (C := RX2) (T := TX2) (N := 7) (ci := 2) hts iX2 hown hK hP 1 rfl rfl 4 (by decide) wd3 rfl (.int Xfi) rfl dX7_carryOutOrder_150 ?_
                                        refine lv_aload_n hx hb dX7_carryOutOrder_153 rfl (lv_at hl 0 rfl) ?_
                                        refine x_get hx hb (C := RX7) (T := TX7) (N := 4) (ci := 7) hts iX7 hown hK hP 0 rfl rfl 2 (by decide) wd0 rfl (.ref t0) rfl dX7_carryOutOrder_154 ?_
                                        refine x_get hx hb (C := RX2) (T := TX2) (N := 7) (ci := 2) hts iX2 hown hK hP 1 rfl rfl 5 (by decide) wd4 rfl (.int Xse) rfl dX7_carryOutOrder_157 ?_
                                        refine lv_aload_n hx hb dX7_carryOutOrder_160 rfl (lv_at hl 0 rfl) ?_
                                        refine x_get hx hb (C := RX7) (T := TX7) (N := 4) (ci := 7) hts iX7 hown hK hP 0 rfl rfl 2 (by decide) wd0 rfl (.ref t0) rfl dX7_carryOutOrder_161 ?_
                                        refine x_get hx hb (C := RX2) (T := TX2) (N := 7) (ci := 2) hts iX2 hown hK hP 1 rfl rfl 6 (by decide) wd6 rfl (.int Xth) rfl dX7_carryOutOrder_164 ?_
                                        obtain ⟨r_63, Aba_64, Amo_65, Tma_66, Tlc_67, Ttc_68, h_69, hf⟩ := bd6_el hf
                                        refine x_callVi (As := [.int Xfi, .int Xse, .int Xth]) (rest := []) ⟨hx, hb, hml, hown, hts⟩ (mX5_makeTransfer l D cy s0 s1 s2 s3 s4 s5 s6 s7 s8 s9 s10 s11 Asz Anu Aba Amo Aco Hsz Hla Hce Bsz Bla Bce Tma Tlc Ttc day lim low hig thr off cre rcp pay Xfi Xse Xth r_63 Aba_64 Amo_65 Tma_66 Tlc_67 Ttc_68 h_69) (cwV 3 hts (gcV_X5_makeTransfer hbg wm_16_8) rfl rfl rfl kdX5_makeTransfer ⟨Nat.le_of_ble_eq_true rfl, Nat.le_of_ble_eq_true rfl⟩) (w1 := [(a0, .inr (7, [.ref s0, .ref (hd 0), .ref t0, .ref k0]))] ++ (wX2 cy t0 t1 Xle Xch Xpo Xltr Xfi Xse Xth ++ (wX3 cy k0 k1 k2 Ksz Kcl Kke))) (w2 := wX1 cy hd sv nx SL) (w' := wX7 cy a0 t0 t1 k0 k1 k2 s0 s1 s2 s3 s4 s5 s6 s7 s8 s9 s10 s11 hd Xle Xch Xpo Xltr Xfi Xse Xth Ksz Kcl Kke Asz Anu Aba_64 Amo_65 Aco Hsz Hla Hce Bsz Bla Bce Tma_66 Tlc_67 Ttc_68 day lim low hig thr off cre rcp pay sv nx SL) rfl rfl hP hK hD hN hS hA (q0 := 0) rfl rfl rfl rfl hl rfl (Nat.le_of_ble_eq_true rfl) dX7_carryOutOrder_167 ⟨Nat.zero_le _, Nat.zero_le _⟩ (fun H locs hP hD hS => ?_)
                                        refine lv_i2l (v := r_63.toInt64) hx hb dX7_carryOutOrder_170 rfl ?_
                                        have hf := Option.some.inj hf
                                        cases hf
                                        exact x_lret hx hb hr hlocks hK hP hD hS dX7_carryOutOrder_171
                                      · have hf := x_f s_62 hf
                                        refine lv_tableOut (tgt := 226) hx hb dX7_carryOutOrder_7 (x_out98_116 s_1 s_7 s_8 s_21 s_22 s_23 s_24 s_25 s_26 s_27 s_28 s_29 s_30 s_31 s_32 s_41 s_42 s_51 s_62) (by decide) ?_
                                        refine lv_ldc2 hx hb hown wd5 dX7_carryOutOrder_226 ?_
                                        have hf := Option.some.inj hf
                                        cases hf
                                        exact x_lret hx hb hr hlocks hK hP hD hS dX7_carryOutOrder_229
theorem kdX7_carryOut : yX7_carryOut.cls = RX7 ∧ yX7_carryOut.cls ≠ "java/lang/invoke/MethodHandle" ∧ yX7_carryOut.cls ≠ "java/lang/invoke/VarHandle" ∧ (parseMethodDescriptor yX7_carryOut.desc).map (fun d => d.parameters.length) = some 0 := by decide +kernel
def rmX7_carryOut : Room := { frames := 7, cells := 0, slots := 0, locals := 163 }
set_option maxHeartbeats 4000000 in
set_option maxRecDepth 100000 in
theorem mX7_carryOut (l : Launch) (D : va_G) (cy : Nat → ClassId) (a0 t0 t1 k0 k1 k2 s0 s1 s2 s3 s4 s5 s6 s7 s8 s9 s10 s11 : Nat) (hd : Nat → Nat) (Xle : Int32) (Xch : Nat → Int32) (Xpo : Int32) (Xltr : Int32) (Xfi : Int32) (Xse : Int32) (Xth : Int32) (Ksz : Int32) (Kcl : Nat → Int32) (Kke : Nat → Int32) (Asz : Int32) (Anu : Nat → Int32) (Aba : Nat → Int32) (Amo : Nat → Int32) (Aco : Nat → Int64) (Hsz : Int32) (Hla : Int32) (Hce : Nat → Int32) (Bsz : Int32) (Bla : Int32) (Bce : Nat → Int32) (Tma : Int32) (Tlc : Int32) (Ttc : Nat → Int32) (day : Int32) (lim : Int32) (low : Int32) (hig : Int32) (thr : Int32) (off : Int64) (cre : Int64) (rcp : Int64) (pay : Int64) (sv : Int32) (nx : Int32) (SL : Nat → XS)  (r : Int32) (Xle' : Int32) (Xpo' : Int32) (Xltr' : Int32) (Xfi' : Int32) (Xse' : Int32) (Xth' : Int32) (Aba' : Nat → Int32) (Amo' : Nat → Int32) (Aco' : Nat → Int64) (Hsz' : Int32) (Hce' : Nat → Int32) (Bsz' : Int32) (Bla' : Int32) (Bce' : Nat → Int32) (Tma' : Int32) (Tlc' : Int32) (Ttc' : Nat → Int32) (day' : Int32) (off' : Int64) (cre' : Int64) (rcp' : Int64) (pay' : Int64) (sv' : Int32) (nx' : Int32) (SL' : Nat → XS) (hf : fX7_carryOut Xle Xch Xpo Xltr Xfi Xse Xth Asz Anu Aba Amo Aco Hsz Hla Hce Bsz Bla Bce Tma Tlc Ttc day lim low hig thr off cre rcp pay sv nx SL = some (r, Xle', Xpo', Xltr', Xfi', Xse', Xth', Aba', Amo', Aco', Hsz', Hce', Bsz', Bla', Bce', Tma', Tlc', Ttc', day', off', cre', rcp', pay', sv', nx', SL')) : xMi l D cy yX7_carryOut aX7_carryOut rmX7_carryOut ([.ref a0] : List Value) (wX7 cy a0 t0 t1 k0 k1 k2 s0 s1 s2 s3 s4 s5 s6 s7 s8 s9 s10 s11 hd Xle Xch Xpo Xltr Xfi Xse Xth Ksz Kcl Kke Asz Anu Aba Amo Aco Hsz Hla Hce Bsz Bla Bce Tma Tlc Ttc day lim low hig thr off cre rcp pay sv nx SL) (wX7 cy a0 t0 t1 k0 k1 k2 s0 s1 s2 s3 s4 s5 s6 s7 s8 s9 s10 s11 hd Xle' Xch Xpo' Xltr' Xfi' Xse' Xth' Ksz Kcl Kke Asz Anu Aba' Amo' Aco' Hsz' Hla Hce' Bsz' Bla' Bce' Tma' Tlc' Ttc' day' lim low hig thr off' cre' rcp' pay' sv' nx' SL') r := by
  intro hz
  refine x_start (Qc := xQi D cy _ r) (cc := cX7_carryOut) (maxL := 3) (ret := (some .int)) (by decide) rfl (Nat.le_of_ble_eq_true rfl) (lv := [(0, .ref a0)]) rfl ?_
  intro p e s m below meth c ls A hx hb hr hml hown hts hlocks hK hP hD hS hA hN hl
  have hown : s.vm.findClass RX7 = some m.cls := hown
  have hbg : ∀ w ∈ wsL_law, w ∈ aX7_carryOut := fun w h => List.mem_cons_of_mem _ h
  have wd0 : (Cond.fieldLink RX7 26 "ClientMoneyBook" "text" "LClientMoneyBook$OrderText;").before ([.ref a0] : List Value).toArray s = true := hts _ (List.mem_cons_of_mem _ wm_0_23)
  have wd1 : (Cond.fieldLink RX7 19 "ClientMoneyBook" "history" "LClientMoneyBook$History;").before ([.ref a0] : List Value).toArray s = true := hts _ (List.mem_cons_of_mem _ wm_0_19)
  have wd2 : (Cond.fieldLink RX7 10 "ClientMoneyBook" "state" "LClientMoneyBook$State;").before ([.ref a0] : List Value).toArray s = true := hts _ (List.mem_cons_of_mem _ wm_0_15)
  have iX7 : ∀ w ∈ u_ws RX7 TX7 4, w ∈ aX7_carryOut := fun w h => List.mem_cons_of_mem _ (inlX7 w h)
  unfold fX7_carryOut at hf
  refine lv_aload_n hx hb dX7_carryOut_0 rfl (lv_at hl 0 rfl) ?_
  refine x_get hx hb (C := RX7) (T := TX7) (N := 4) (ci := 7) hts iX7 hown hK hP 0 rfl rfl 2 (by decide) wd0 rfl (.ref t0) rfl dX7_carryOut_1 ?_
  obtain ⟨r_1, h_2, hf⟩ := bd1_el hf
  refine x_callVi (As := []) (rest := []) ⟨hx, hb, hml, hown, hts⟩ (mX2_firstError l D cy t0 t1 Xle Xch Xpo Xltr Xfi Xse Xth  r_1 h_2) (cwV 0 hts (gcV_X2_firstError hbg wm_34_23) rfl rfl rfl kdX2_firstError ⟨Nat.le_of_ble_eq_true rfl, Nat.le_of_ble_eq_true rfl⟩) (w1 := [(a0, .inr (7, [.ref s0, .ref (hd 0), .ref t0, .ref k0]))]) (w2 := wX3 cy k0 k1 k2 Ksz Kcl Kke ++ (wX5 cy s0 s1 s2 s3 s4 s5 s6 s7 s8 s9 s10 s11 Asz Anu Aba Amo Aco Hsz Hla Hce Bsz Bla Bce Tma Tlc Ttc day lim low hig thr off cre rcp pay ++ (wX1 cy hd sv nx SL))) (w' := wX7 cy a0 t0 t1 k0 k1 k2 s0 s1 s2 s3 s4 s5 s6 s7 s8 s9 s10 s11 hd Xle Xch Xpo Xltr Xfi Xse Xth Ksz Kcl Kke Asz Anu Aba Amo Aco Hsz Hla Hce Bsz Bla Bce Tma Tlc Ttc day lim low hig thr off cre rcp pay sv nx SL) rfl rfl hP hK hD hN hS hA (q0 := 0) rfl rfl rfl rfl hl rfl (Nat.le_of_ble_eq_true rfl) dX7_carryOut_4 ⟨Nat.zero_le _, Nat.zero_le _⟩ (fun H locs hP hD hS => ?_)
  refine lv_bipush (v := (-6)) hx hb dX7_carryOut_7 (by decide) ?_
  refine lv_icmp_eq (tgt := 15) hx hb dX7_carryOut_9 (by decide) (fun c_3 => ?_) (fun c_3 => ?_)
  · have hf := x_t c_3 hf
    refine lv_aload_n hx hb dX7_carryOut_15 rfl (lv_at hl 0 rfl) ?_
    refine x_get hx hb (C := RX7) (T := TX7) (N := 4) (ci := 7) hts iX7 hown hK hP 0 rfl rfl 1 (by decide) wd1 rfl (.ref (hd 0)) rfl dX7_carryOut_16 ?_
    refine lv_aload_n hx hb dX7_carryOut_19 rfl (lv_at hl 0 rfl) ?_
    refine x_get hx hb (C := RX7) (T := TX7) (N := 4) (ci := 7) hts iX7 hown hK hP 0 rfl rfl 0 (by decide) wd2 rfl (.ref s0) rfl dX7_carryOut_20 ?_
    obtain ⟨SL_4, h_5, hf⟩ := bd1_el hf
    refine x_callVv (As := [.ref s0]) (rest := []) ⟨hx, hb, hml, hown, hts⟩ (mX1_prepare l D cy s0 s1 s2 s3 s4 s5 s6 s7 s8 s9 s10 s11 hd Asz Anu Aba Amo Aco Hsz Hla Hce Bsz Bla Bce Tma Tlc Ttc day lim low hig thr off cre rcp pay sv nx SL  SL_4 h_5) (cwV 1 hts (gcV_X1_prepare hbg wm_4_20) rfl rfl rfl kdX1_prepare ⟨Nat.le_of_ble_eq_true rfl, Nat.le_of_ble_eq_true rfl⟩) (w1 := [(a0, .inr (7, [.ref s0, .ref (hd 0), .ref t0, .ref k0]))] ++ (wX2 cy t0 t1 Xle Xch Xpo Xltr Xfi Xse Xth ++ (wX3 cy k0 k1 k2 Ksz Kcl Kke))) (w2 := []) (w' := wX7 cy a0 t0 t1 k0 k1 k2 s0 s1 s2 s3 s4 s5 s6 s7 s8 s9 s10 s11 hd Xle Xch Xpo Xltr Xfi Xse Xth Ksz Kcl Kke Asz Anu Aba Amo Aco Hsz Hla Hce Bsz Bla Bce Tma Tlc Ttc day lim low hig thr off cre rcp pay sv nx SL_4) (x_end rfl) (x_end rfl) hP hK hD hN hS hA (q0 := 12) rfl rfl rfl rfl hl rfl (Nat.le_of_ble_eq_true rfl) dX7_carryOut_23 ⟨Nat.zero_le _, Nat.zero_le _⟩ (fun H locs hP hD hS => ?_)
    refine lv_iconst (v := 0) hx hb dX7_carryOut_26 (by decide) ?_
    refine lv_istore_n (lv' := [(1, .int 0), (0, .ref a0)]) hx hb dX7_carryOut_27 rfl hl (by decide) rfl (fun ls hl => ?_)
    refine lv_aload_n hx hb dX7_carryOut_28 rfl (lv_at hl 1 rfl) ?_
    refine x_get hx hb (C := RX7) (T := TX7) (N := 4) (ci := 7) hts iX7 hown hK hP 0 rfl rfl 2 (by decide) wd0 rfl (.ref t0) rfl dX7_carryOut_29 ?_
    obtain ⟨Xpo_6, h_7, hf⟩ := bd1_el hf
    refine x_callVv (As := []) (rest := []) ⟨hx, hb, hml, hown, hts⟩ (mX2_startReading l D cy t0 t1 Xle Xch Xpo Xltr Xfi Xse Xth  Xpo_6 h_7) (cwV 0 hts (gcV_X2_startReading hbg wm_40_13) rfl rfl rfl kdX2_startReading ⟨Nat.le_of_ble_eq_true rfl, Nat.le_of_ble_eq_true rfl⟩) (w1 := [(a0, .inr (7, [.ref s0, .ref (hd 0), .ref t0, .ref k0]))]) (w2 := wX3 cy k0 k1 k2 Ksz Kcl Kke ++ (wX5 cy s0 s1 s2 s3 s4 s5 s6 s7 s8 s9 s10 s11 Asz Anu Aba Amo Aco Hsz Hla Hce Bsz Bla Bce Tma Tlc Ttc day lim low hig thr off cre rcp pay ++ (wX1 cy hd sv nx SL_4))) (w' := wX7 cy a0 t0 t1 k0 k1 k2 s0 s1 s2 s3 s4 s5 s6 s7 s8 s9 s10 s11 hd Xle Xch Xpo_6 Xltr Xfi Xse Xth Ksz Kcl Kke Asz Anu Aba Amo Aco Hsz Hla Hce Bsz Bla Bce Tma Tlc Ttc day lim low hig thr off cre rcp pay sv nx SL_4) rfl rfl hP hK hD hN hS hA (q0 := 0) rfl rfl rfl rfl hl rfl (Nat.le_of_ble_eq_true rfl) dX7_carryOut_32 ⟨Nat.zero_le _, Nat.zero_le _⟩ (fun H locs hP hD hS => ?_)
    refine lv_iconst (v := 0) hx hb dX7_carryOut_35 (by decide) ?_
    refine lv_istore_n (lv' := [(2, .int 0), (1, .int 0), (0, .ref a0)]) hx hb dX7_carryOut_36 rfl hl (by decide) rfl (fun ls hl => ?_)
    have hL_37 : ∀ (n : Nat) (Xpo_64 : Int32) (Xltr_65 : Int32) (Xfi_66 : Int32) (Xse_67 : Int32) (Xth_68 : Int32) (Aba_69 : Nat → Int32) (Amo_70 : Nat → Int32) (Aco_71 : Nat → Int64) (Hsz_72 : Int32) (Hce_73 : Nat → Int32) (Bsz_74 : Int32) (Bla_75 : Int32) (Bce_76 : Nat → Int32) (Tma_77 : Int32) (Tlc_78 : Int32) (Ttc_79 : Nat → Int32) (day_80 : Int32) (off_81 : Int64) (cre_82 : Int64) (rcp_83 : Int64) (pay_84 : Int64) (z1_85 : Int32) (z2_86 : Int32) (o : Int32 × Int32 × Int32 × Int32 × Int32 × (Nat → Int32) × (Nat → Int32) × (Nat → Int64) × Int32 × (Nat → Int32) × Int32 × Int32 × (Nat → Int32) × Int32 × Int32 × (Nat → Int32) × Int32 × Int64 × Int64 × Int64 × Int64 × Int32) (H : Heap) (locs : List Loc) (ls : Array Slot), fX7_carryOut_L37 Xle Xch Asz Anu lim low hig thr n Xpo_64 Xltr_65 Xfi_66 Xse_67 Xth_68 Aba_69 Amo_70 Aco_71 Hsz_72 Hce_73 Bsz_74 Bla_75 Bce_76 Tma_77 Tlc_78 Ttc_79 day_80 off_81 cre_82 rcp_83 pay_84 z1_85 z2_86 = some o → va_P D vwCl (wX7 cy a0 t0 t1 k0 k1 k2 s0 s1 s2 s3 s4 s5 s6 s7 s8 s9 s10 s11 hd Xle Xch Xpo_64 Xltr_65 Xfi_66 Xse_67 Xth_68 Ksz Kcl Kke Asz Anu Aba_69 Amo_70 Aco_71 Hsz_72 Hla Hce_73 Bsz_74 Bla_75 Bce_76 Tma_77 Tlc_78 Ttc_79 day_80 lim low hig thr off_81 cre_82 rcp_83 pay_84 sv nx SL_4) H → va_D A (wX7 cy a0 t0 t1 k0 k1 k2 s0 s1 s2 s3 s4 s5 s6 s7 s8 s9 s10 s11 hd Xle Xch Xpo_64 Xltr_65 Xfi_66 Xse_67 Xth_68 Ksz Kcl Kke Asz Anu Aba_69 Amo_70 Aco_71 Hsz_72 Hla Hce_73 Bsz_74 Bla_75 Bce_76 Tma_77 Tlc_78 Ttc_79 day_80 lim low hig thr off_81 cre_82 rcp_83 pay_84 sv nx SL_4) → va_S A s.heap H locs → lv_has ls 3 [(0, .ref a0), (1, .int z1_85), (2, .int z2_86)] → True → ((∀ (Xpo_87 : Int32) (Xltr_88 : Int32) (Xfi_89 : Int32) (Xse_90 : Int32) (Xth_91 : Int32) (Aba_92 : Nat → Int32) (Amo_93 : Nat → Int32) (Aco_94 : Nat → Int64) (Hsz_95 : Int32) (Hce_96 : Nat → Int32) (Bsz_97 : Int32) (Bla_98 : Int32) (Bce_99 : Nat → Int32) (Tma_100 : Int32) (Tlc_101 : Int32) (Ttc_102 : Nat → Int32) (day_103 : Int32) (off_104 : Int64) (cre_105 : Int64) (rcp_106 : Int64) (pay_107 : Int64) (x1_108 : Int32) , o = (Xpo_87, Xltr_88, Xfi_89, Xse_90, Xth_91, Aba_92, Amo_93, Aco_94, Hsz_95, Hce_96, Bsz_97, Bla_98, Bce_99, Tma_100, Tlc_101, Ttc_102, day_103, off_104, cre_105, rcp_106, pay_107, x1_108) → ∀ (H : Heap) (locs : List Loc) (ls : Array Slot), va_P D vwCl (wX7 cy a0 t0 t1 k0 k1 k2 s0 s1 s2 s3 s4 s5 s6 s7 s8 s9 s10 s11 hd Xle Xch Xpo_87 Xltr_88 Xfi_89 Xse_90 Xth_91 Ksz Kcl Kke Asz Anu Aba_92 Amo_93 Aco_94 Hsz_95 Hla Hce_96 Bsz_97 Bla_98 Bce_99 Tma_100 Tlc_101 Ttc_102 day_103 lim low hig thr off_104 cre_105 rcp_106 pay_107 sv nx SL_4) H → va_D A (wX7 cy a0 t0 t1 k0 k1 k2 s0 s1 s2 s3 s4 s5 s6 s7 s8 s9 s10 s11 hd Xle Xch Xpo_87 Xltr_88 Xfi_89 Xse_90 Xth_91 Ksz Kcl Kke Asz Anu Aba_92 Amo_93 Aco_94 Hsz_95 Hla Hce_96 Bsz_97 Bla_98 Bce_99 Tma_100 Tlc_101 Ttc_102 day_103 lim low hig thr off_104 cre_105 rcp_106 pay_107 sv nx SL_4) → va_S A s.heap H locs → lv_has ls 3 [(0, .ref a0), (1, .int x1_108)] → W p l e rmX7_carryOut s m ([.ref a0] : List Value).toArray below meth c H locs 0 0 (MQ below (xQi D cy (wX7 cy a0 t0 t1 k0 k1 k2 s0 s1 s2 s3 s4 s5 s6 s7 s8 s9 s10 s11 hd Xle' Xch Xpo' Xltr' Xfi' Xse' Xth' Ksz Kcl Kke Asz Anu Aba' Amo' Aco' Hsz' Hla Hce' Bsz' Bla' Bce' Tma' Tlc' Ttc' day' lim low hig thr off' cre' rcp' pay' sv' nx' SL') r A) ([.ref a0] : List Value).toArray s 0 0 A) (F0 m 74 ls []))) → W p l e rmX7_carryOut s m ([.ref a0] : List Value).toArray below meth c H locs 0 0 (MQ below (xQi D cy (wX7 cy a0 t0 t1 k0 k1 k2 s0 s1 s2 s3 s4 s5 s6 s7 s8 s9 s10 s11 hd Xle' Xch Xpo' Xltr' Xfi' Xse' Xth' Ksz Kcl Kke Asz Anu Aba' Amo' Aco' Hsz' Hla Hce' Bsz' Bla' Bce' Tma' Tlc' Ttc' day' lim low hig thr off' cre' rcp' pay' sv' nx' SL') r A) ([.ref a0] : List Value).toArray s 0 0 A) (F0 m 37 ls []) := by
      intro n
      induction n with
      | zero =>
        intro Xpo_64 Xltr_65 Xfi_66 Xse_67 Xth_68 Aba_69 Amo_70 Aco_71 Hsz_72 Hce_73 Bsz_74 Bla_75 Bce_76 Tma_77 Tlc_78 Ttc_79 day_80 off_81 cre_82 rcp_83 pay_84 z1_85 z2_86 o_37 H locs ls hf
        rw [fX7_carryOut_L37] at hf
        cases hf
      | succ n ih =>
        intro Xpo_64 Xltr_65 Xfi_66 Xse_67 Xth_68 Aba_69 Amo_70 Aco_71 Hsz_72 Hce_73 Bsz_74 Bla_75 Bce_76 Tma_77 Tlc_78 Ttc_79 day_80 off_81 cre_82 rcp_83 pay_84 z1_85 z2_86 o_37 H locs ls hf hP hD hS hl hr_37 kx_37
        rw [fX7_carryOut_L37] at hf
        refine lv_iload_n hx hb dX7_carryOut_37 rfl (lv_at hl 2 rfl) ?_
        refine lv_bipush (v := 80) hx hb dX7_carryOut_38 (by decide) ?_
        refine lv_icmp_ge (tgt := 74) hx hb dX7_carryOut_40 (by decide) (fun c_109 => ?_) (fun c_109 => ?_)
        · have hf := x_t c_109 hf
          exact kx_37 Xpo_64 Xltr_65 Xfi_66 Xse_67 Xth_68 Aba_69 Amo_70 Aco_71 Hsz_72 Hce_73 Bsz_74 Bla_75 Bce_76 Tma_77 Tlc_78 Ttc_79 day_80 off_81 cre_82 rcp_83 pay_84 z1_85 (Option.some.inj hf).symm _ _ _ hP hD hS (lv_sub hl [0, 1] rfl)
        · have hf := x_f c_109 hf
          refine lv_aload_n hx hb dX7_carryOut_43 rfl (lv_at hl 0 rfl) ?_
          refine x_get hx hb (C := RX7) (T := TX7) (N := 4) (ci := 7) hts iX7 hown hK hP 0 rfl rfl 2 (by decide) wd0 rfl (.ref t0) rfl dX7_carryOut_44 ?_
          obtain ⟨r_110, Xpo_111, Xltr_112, Xfi_113, Xse_114, Xth_115, h_116, hf⟩ := bd6_el hf
          refine x_callVi (As := []) (rest := []) ⟨hx, hb, hml, hown, hts⟩ (mX2_readOrder l D cy t0 t1 Xle Xch Xpo_64 Xltr_65 Xfi_66 Xse_67 Xth_68  r_110 Xpo_111 Xltr_112 Xfi_113 Xse_114 Xth_115 h_116) (cwV 0 hts (gcV_X2_readOrder hbg wm_40_17) rfl rfl rfl kdX2_readOrder ⟨Nat.le_of_ble_eq_true rfl, Nat.le_of_ble_eq_true rfl⟩) (w1 := [(a0, .inr (7, [.ref s0, .ref (hd 0), .ref t0, .ref k0]))]) (w2 := wX3 cy k0 k1 k2 Ksz Kcl Kke ++ (wX5 cy s0 s1 s2 s3 s4 s5 s6 s7 s8 s9 s10 s11 Asz Anu Aba_69 Amo_70 Aco_71 Hsz_72 Hla Hce_73 Bsz_74 Bla_75 Bce_76 Tma_77 Tlc_78 Ttc_79 day_80 lim low hig thr off_81 cre_82 rcp_83 pay_84 ++ (wX1 cy hd sv nx SL_4))) (w' := wX7 cy a0 t0 t1 k0 k1 k2 s0 s1 s2 s3 s4 s5 s6 s7 s8 s9 s10 s11 hd Xle Xch Xpo_111 Xltr_112 Xfi_113 Xse_114 Xth_115 Ksz Kcl Kke Asz Anu Aba_69 Amo_70 Aco_71 Hsz_72 Hla Hce_73 Bsz_74 Bla_75 Bce_76 Tma_77 Tlc_78 Ttc_79 day_80 lim low hig thr off_81 cre_82 rcp_83 pay_84 sv nx SL_4) rfl rfl hP hK hD hN hS hA (q0 := 0) rfl rfl rfl rfl hl rfl (Nat.le_of_ble_eq_true rfl) dX7_carryOut_47 ⟨Nat.zero_le _, Nat.zero_le _⟩ (fun H locs hP hD hS => ?_)
          refine lv_if_eq (tgt := 74) hx hb dX7_carryOut_50 (by decide) (fun c_117 => ?_) (fun c_117 => ?_)
          · have hf := x_t c_117 hf
            exact kx_37 Xpo_111 Xltr_112 Xfi_113 Xse_114 Xth_115 Aba_69 Amo_70 Aco_71 Hsz_72 Hce_73 Bsz_74 Bla_75 Bce_76 Tma_77 Tlc_78 Ttc_79 day_80 off_81 cre_82 rcp_83 pay_84 z1_85 (Option.some.inj hf).symm _ _ _ hP hD hS (lv_sub hl [0, 1] rfl)
          · have hf := x_f c_117 hf
            refine lv_aload_n hx hb dX7_carryOut_53 rfl (lv_at hl 0 rfl) ?_
            obtain ⟨r_118, Aba_119, Amo_120, Aco_121, Hsz_122, Hce_123, Bsz_124, Bla_125, Bce_126, Tma_127, Tlc_128, Ttc_129, day_130, off_131, cre_132, rcp_133, pay_134, h_135, hf⟩ := bd17_el hf
            refine x_callVl (As := []) (rest := []) ⟨hx, hb, hml, hown, hts⟩ (mX7_carryOutOrder l D cy a0 t0 t1 k0 k1 k2 s0 s1 s2 s3 s4 s5 s6 s7 s8 s9 s10 s11 hd Xle Xch Xpo_111 Xltr_112 Xfi_113 Xse_114 Xth_115 Ksz Kcl Kke Asz Anu Aba_69 Amo_70 Aco_71 Hsz_72 Hla Hce_73 Bsz_74 Bla_75 Bce_76 Tma_77 Tlc_78 Ttc_79 day_80 lim low hig thr off_81 cre_82 rcp_83 pay_84 sv nx SL_4  r_118 Aba_119 Amo_120 Aco_121 Hsz_122 Hce_123 Bsz_124 Bla_125 Bce_126 Tma_127 Tlc_128 Ttc_129 day_130 off_131 cre_132 rcp_133 pay_134 h_135) (cwV 0 hts (gcV_X7_carryOutOrder hbg wm_41_1) rfl rfl rfl kdX7_carryOutOrder ⟨Nat.le_of_ble_eq_true rfl, Nat.le_of_ble_eq_true rfl⟩) (w1 := []) (w2 := []) (w' := wX7 cy a0 t0 t1 k0 k1 k2 s0 s1 s2 s3 s4 s5 s6 s7 s8 s9 s10 s11 hd Xle Xch Xpo_111 Xltr_112 Xfi_113 Xse_114 Xth_115 Ksz Kcl Kke Asz Anu Aba_119 Amo_120 Aco_121 Hsz_122 Hla Hce_123 Bsz_124 Bla_125 Bce_126 Tma_127 Tlc_128 Ttc_129 day_130 lim low hig thr off_131 cre_132 rcp_133 pay_134 sv nx SL_4) (List.append_nil _) (List.append_nil _) hP hK hD hN hS hA (q0 := 0) rfl rfl rfl rfl hl rfl (Nat.le_of_ble_eq_true rfl) dX7_carryOut_54 ⟨Nat.zero_le _, Nat.zero_le _⟩ (fun H locs hP hD hS => ?_)
            refine lv_lconst (v := 0) hx hb dX7_carryOut_57 (by decide) ?_
            refine W.lcmp hx hb dX7_carryOut_58 ?_
            refine lv_if_ge (tgt := 65) hx hb dX7_carryOut_59 (by decide) (fun c_136 => ?_) (fun c_136 => ?_)
            · have c_136 := (lg_cmp_ge _ _).mp c_136
              have hf := x_t c_136 hf
              refine lv_iinc (v := (z1_85 + 1)) (lv' := [(1, .int (z1_85 + 1)), (0, .ref a0), (2, .int z2_86)]) hx hb dX7_carryOut_65 hl (k := 1) rfl rfl (by decide) rfl (fun ls hl => ?_)
              refine lv_iinc (v := (z2_86 + 1)) (lv' := [(2, .int (z2_86 + 1)), (1, .int (z1_85 + 1)), (0, .ref a0)]) hx hb dX7_carryOut_68 hl (k := 2) rfl rfl (by decide) rfl (fun ls hl => ?_)
              refine lv_goto (tgt := 37) hx hb dX7_carryOut_71 (by decide) ?_
              exact ih Xpo_111 Xltr_112 Xfi_113 Xse_114 Xth_115 Aba_119 Amo_120 Aco_121 Hsz_122 Hce_123 Bsz_124 Bla_125 Bce_126 Tma_127 Tlc_128 Ttc_129 day_130 off_131 cre_132 rcp_133 pay_134 (z1_85 + 1) (z2_86 + 1) _ _ _ _ hf hP hD hS (lv_sub hl [2, 1, 0] rfl) hr_37 kx_37
            · have c_136 := fun q => c_136 ((lg_cmp_ge _ _).mpr q)
              have hf := x_f c_136 hf
              refine lv_goto (tgt := 74) hx hb dX7_carryOut_62 (by decide) ?_
              exact kx_37 Xpo_111 Xltr_112 Xfi_113 Xse_114 Xth_115 Aba_119 Amo_120 Aco_121 Hsz_122 Hce_123 Bsz_124 Bla_125 Bce_126 Tma_127 Tlc_128 Ttc_129 day_130 off_131 cre_132 rcp_133 pay_134 z1_85 (Option.some.inj hf).symm _ _ _ hP hD hS (lv_sub hl [0, 1] rfl)
    obtain ⟨Xpo_36, Xltr_37, Xfi_38, Xse_39, Xth_40, Aba_41, Amo_42, Aco_43, Hsz_44, Hce_45, Bsz_46, Bla_47, Bce_48, Tma_49, Tlc_50, Ttc_51, day_52, off_53, cre_54, rcp_55, pay_56, x1_57, h1_37, hf⟩ := bd22_el hf
    refine hL_37 2147483648 Xpo_6 Xltr Xfi Xse Xth Aba Amo Aco Hsz Hce Bsz Bla Bce Tma Tlc Ttc day off cre rcp pay 0 0 _ _ _ _ h1_37 hP hD hS (lv_sub hl [2, 1, 0] rfl) trivial (fun Xpo_369 Xltr_379 Xfi_389 Xse_399 Xth_409 Aba_419 Amo_429 Aco_439 Hsz_449 Hce_459 Bsz_469 Bla_479 Bce_489 Tma_499 Tlc_509 Ttc_519 day_529 off_539 cre_549 rcp_559 pay_569 x1_579 ho H locs ls hP hD hS hl => ?_)
    cases ho
    refine lv_aload_n hx hb dX7_carryOut_74 rfl (lv_at hl 0 rfl) ?_
    refine x_get hx hb (C := RX7) (T := TX7) (N := 4) (ci := 7) hts iX7 hown hK hP 0 rfl rfl 2 (by decide) wd0 rfl (.ref t0) rfl dX7_carryOut_75 ?_
    obtain ⟨r_58, Xle_59, h_60, hf⟩ := bd2_el hf
    refine x_callVi (As := []) (rest := []) ⟨hx, hb, hml, hown, hts⟩ (mX2_empty l D cy t0 t1 Xle Xch Xpo_36 Xltr_37 Xfi_38 Xse_39 Xth_40  r_58 Xle_59 h_60) (cwV 0 hts (gcV_X2_empty hbg wm_34_11) rfl rfl rfl kdX2_empty ⟨Nat.le_of_ble_eq_true rfl, Nat.le_of_ble_eq_true rfl⟩) (w1 := [(a0, .inr (7, [.ref s0, .ref (hd 0), .ref t0, .ref k0]))]) (w2 := wX3 cy k0 k1 k2 Ksz Kcl Kke ++ (wX5 cy s0 s1 s2 s3 s4 s5 s6 s7 s8 s9 s10 s11 Asz Anu Aba_41 Amo_42 Aco_43 Hsz_44 Hla Hce_45 Bsz_46 Bla_47 Bce_48 Tma_49 Tlc_50 Ttc_51 day_52 lim low hig thr off_53 cre_54 rcp_55 pay_56 ++ (wX1 cy hd sv nx SL_4))) (w' := wX7 cy a0 t0 t1 k0 k1 k2 s0 s1 s2 s3 s4 s5 s6 s7 s8 s9 s10 s11 hd Xle_59 Xch Xpo_36 Xltr_37 Xfi_38 Xse_39 Xth_40 Ksz Kcl Kke Asz Anu Aba_41 Amo_42 Aco_43 Hsz_44 Hla Hce_45 Bsz_46 Bla_47 Bce_48 Tma_49 Tlc_50 Ttc_51 day_52 lim low hig thr off_53 cre_54 rcp_55 pay_56 sv nx SL_4) rfl rfl hP hK hD hN hS hA (q0 := 0) rfl rfl rfl rfl hl rfl (Nat.le_of_ble_eq_true rfl) dX7_carryOut_78 ⟨Nat.zero_le _, Nat.zero_le _⟩ (fun H locs hP hD hS => ?_)
    refine lv_pop hx hb dX7_carryOut_81 rfl ?_
    refine lv_aload_n hx hb dX7_carryOut_82 rfl (lv_at hl 0 rfl) ?_
    refine x_get hx hb (C := RX7) (T := TX7) (N := 4) (ci := 7) hts iX7 hown hK hP 0 rfl rfl 1 (by decide) wd1 rfl (.ref (hd 0)) rfl dX7_carryOut_83 ?_
    obtain ⟨sv_61, nx_62, h_63, hf⟩ := bd2_el hf
    refine x_callVv (As := []) (rest := []) ⟨hx, hb, hml, hown, hts⟩ (mX1_keep l D cy hd sv nx SL_4  sv_61 nx_62 h_63) (cwV 0 hts (gcV_X1_keep hbg wm_6_11) rfl rfl rfl kdX1_keep ⟨Nat.le_of_ble_eq_true rfl, Nat.le_of_ble_eq_true rfl⟩) (w1 := [(a0, .inr (7, [.ref s0, .ref (hd 0), .ref t0, .ref k0]))] ++ (wX2 cy t0 t1 Xle_59 Xch Xpo_36 Xltr_37 Xfi_38 Xse_39 Xth_40 ++ (wX3 cy k0 k1 k2 Ksz Kcl Kke ++ (wX5 cy s0 s1 s2 s3 s4 s5 s6 s7 s8 s9 s10 s11 Asz Anu Aba_41 Amo_42 Aco_43 Hsz_44 Hla Hce_45 Bsz_46 Bla_47 Bce_48 Tma_49 Tlc_50 Ttc_51 day_52 lim low hig thr off_53 cre_54 rcp_55 pay_56)))) (w2 := []) (w' := wX7 cy a0 t0 t1 k0 k1 k2 s0 s1 s2 s3 s4 s5 s6 s7 s8 s9 s10 s11 hd Xle_59 Xch Xpo_36 Xltr_37 Xfi_38 Xse_39 Xth_40 Ksz Kcl Kke Asz Anu Aba_41 Amo_42 Aco_43 Hsz_44 Hla Hce_45 Bsz_46 Bla_47 Bce_48 Tma_49 Tlc_50 Ttc_51 day_52 lim low hig thr off_53 cre_54 rcp_55 pay_56 sv_61 nx_62 SL_4) (x_end rfl) (x_end rfl) hP hK hD hN hS hA (q0 := 0) rfl rfl rfl rfl hl rfl (Nat.le_of_ble_eq_true rfl) dX7_carryOut_86 ⟨Nat.zero_le _, Nat.zero_le _⟩ (fun H locs hP hD hS => ?_)
    refine lv_iload_n hx hb dX7_carryOut_89 rfl (lv_at hl 1 rfl) ?_
    have hf := Option.some.inj hf
    cases hf
    exact x_iret hx hb hr hlocks hK hP hD hS dX7_carryOut_90
  · have hf := x_f c_3 hf
    refine lv_bipush (v := (-5)) hx hb dX7_carryOut_12 (by decide) ?_
    have hf := Option.some.inj hf
    cases hf
    exact x_iret hx hb hr hlocks hK hP hD hS dX7_carryOut_14
