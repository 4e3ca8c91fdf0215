theorem kdL_same : yL_same.cls ≠ "java/lang/invoke/MethodHandle" ∧ yL_same.cls ≠ "java/lang/invoke/VarHandle" ∧ (parseMethodDescriptor yL_same.desc).map (fun d => d.parameters.length) = some 7 := by decide +kernel
def rmL_same : Room := { frames := 6, cells := 0, slots := 0, locals := 136 }
set_option maxHeartbeats 4000000 in
set_option maxRecDepth 100000 in
theorem mL_same (l : Launch) (D : va_G) (cy : Nat → ClassId) (ye0 ym0 yq0 yh0 yb0 a0 t0 t1 k0 k1 k2 s0 s1 s2 s3 s4 s5 s6 s7 s8 s9 s10 s11 : Nat) (hd : Nat → Nat) (ee : Nat → Int32) (mm : Nat → Int64) (qq : Nat → Int32) (hh : Nat → Int32) (bb : Nat → Int32) (Xle : Int32) (Xch : Nat → Int32) (Xpo : Int32) (Xltr : Int32) (Xfi : Int32) (Xse : Int32) (Xth : Int32) (Ksz : Int32) (Kcl : Nat → Int32) (Kke : Nat → Int32) (Asz : Int32) (Anu : Nat → Int32) (Aba : Nat → Int32) (Amo : Nat → Int32) (Aco : Nat → Int64) (Hsz : Int32) (Hla : Int32) (Hce : Nat → Int32) (Bsz : Int32) (Bla : Int32) (Bce : Nat → Int32) (Tma : Int32) (Tlc : Int32) (Ttc : Nat → Int32) (day : Int32) (lim : Int32) (low : Int32) (hig : Int32) (thr : Int32) (off : Int64) (cre : Int64) (rcp : Int64) (pay : Int64) (sv : Int32) (nx : Int32) (SL : Nat → XS) (p2 : Int32) (r : Int32) (Ksz' : Int32) (Kcl' : Nat → Int32) (Kke' : Nat → Int32) (hf : fL_same ee mm qq hh bb Ksz Kcl Kke Asz Anu Aba Amo Aco Hsz Hce Bsz Bce Tma Ttc day off cre rcp pay p2 = some (r, Ksz', Kcl', Kke')) : xMi l D cy yL_same aL_same rmL_same ([.ref a0, .int p2, .ref ym0, .ref yq0, .ref yh0, .ref yb0, .ref ye0] : List Value) (wAE cy ye0 ee ++ (wAM cy ym0 mm ++ (wAQ cy yq0 qq ++ (wAH cy yh0 hh ++ (wAB cy yb0 bb ++ wX7 cy a0 t0 t1 k0 k1 k2 s0 s1 s2 s3 s4 s5 s6 s7 s8 s9 s10 s11 hd Xle Xch Xpo Xltr Xfi Xse Xth Ksz Kcl Kke Asz Anu Aba Amo Aco Hsz Hla Hce Bsz Bla Bce Tma Tlc Ttc day lim low hig thr off cre rcp pay sv nx SL))))) (wAE cy ye0 ee ++ (wAM cy ym0 mm ++ (wAQ cy yq0 qq ++ (wAH cy yh0 hh ++ (wAB cy yb0 bb ++ wX7 cy a0 t0 t1 k0 k1 k2 s0 s1 s2 s3 s4 s5 s6 s7 s8 s9 s10 s11 hd Xle Xch Xpo Xltr Xfi Xse Xth Ksz' Kcl' Kke' Asz Anu Aba Amo Aco Hsz Hla Hce Bsz Bla Bce Tma Tlc Ttc day lim low hig thr off cre rcp pay sv nx SL))))) r := by
  intro hz
  refine x_start (Qc := xQi D cy _ r) (cc := cL_same) (maxL := 20) (ret := (some .boolean)) (by decide) rfl (Nat.le_of_ble_eq_true rfl) (lv := [(0, .ref a0), (1, .int p2), (2, .ref ym0), (3, .ref yq0), (4, .ref yh0), (5, .ref yb0), (6, .ref ye0)]) rfl ?_
  intro p e s m below meth c ls A hx hb hr hml hown hts hlocks hK hP hD hS hA hN hl
  have hown : s.vm.findClass RL = some m.cls := hown
  have hbg : ∀ w ∈ wsL_law, w ∈ aL_same := fun w h => List.mem_cons_of_mem _ h
  have wd0 : (Cond.constantLong RL 28 (3650000)).before ([.ref a0, .int p2, .ref ym0, .ref yq0, .ref yh0, .ref yb0, .ref ye0] : List Value).toArray s = true := hts _ (List.mem_cons_of_mem _ wm_14_1)
  have wd1 : (Cond.constantLong RL 30 (1000000000)).before ([.ref a0, .int p2, .ref ym0, .ref yq0, .ref yh0, .ref yb0, .ref ye0] : List Value).toArray s = true := hts _ (List.mem_cons_of_mem _ wm_0_9)
  unfold fL_same at hf
  refine lv_iconst (v := 0) hx hb dL_same_0 (by decide) ?_
  refine lv_istore (lv' := [(7, .int 0), (0, .ref a0), (1, .int p2), (2, .ref ym0), (3, .ref yq0), (4, .ref yh0), (5, .ref yb0), (6, .ref ye0)]) hx hb dL_same_1 hl (by decide) rfl (fun ls hl => ?_)
  refine lv_lconst (v := 0) hx hb dL_same_3 (by decide) ?_
  refine lv_lstore (lv' := [(8, .long 0), (7, .int 0), (0, .ref a0), (1, .int p2), (2, .ref ym0), (3, .ref yq0), (4, .ref yh0), (5, .ref yb0), (6, .ref ye0)]) hx hb dL_same_4 hl (by decide) rfl (fun ls hl => ?_)
  refine lv_lconst (v := 0) hx hb dL_same_6 (by decide) ?_
  refine lv_lstore (lv' := [(10, .long 0), (8, .long 0), (7, .int 0), (0, .ref a0), (1, .int p2), (2, .ref ym0), (3, .ref yq0), (4, .ref yh0), (5, .ref yb0), (6, .ref ye0)]) hx hb dL_same_7 hl (by decide) rfl (fun ls hl => ?_)
  refine lv_iconst (v := 1) hx hb dL_same_9 (by decide) ?_
  refine lv_istore (lv' := [(12, .int 1), (10, .long 0), (8, .long 0), (7, .int 0), (0, .ref a0), (1, .int p2), (2, .ref ym0), (3, .ref yq0), (4, .ref yh0), (5, .ref yb0), (6, .ref ye0)]) hx hb dL_same_10 hl (by decide) rfl (fun ls hl => ?_)
  have hL_12 : ∀ (n : Nat) (Ksz_294 : Int32) (Kcl_295 : Nat → Int32) (Kke_296 : Nat → Int32) (z7_297 : Int32) (z8_298 : Int64) (z10_299 : Int64) (z12_300 : Int32) (o : (Int32 × Int32 × (Nat → Int32) × (Nat → Int32)) ⊕ (Int32 × (Nat → Int32) × (Nat → Int32) × Int32 × Int64 × Int64)) (H : Heap) (locs : List Loc) (ls : Array Slot), fL_same_L12 mm qq hh bb Asz Anu Aba Amo Aco Hsz Hce Bsz Bce n Ksz_294 Kcl_295 Kke_296 z7_297 z8_298 z10_299 z12_300 = some o → va_P D vwCl (wAE cy ye0 ee ++ (wAM cy ym0 mm ++ (wAQ cy yq0 qq ++ (wAH cy yh0 hh ++ (wAB cy yb0 bb ++ wX7 cy a0 t0 t1 k0 k1 k2 s0 s1 s2 s3 s4 s5 s6 s7 s8 s9 s10 s11 hd Xle Xch Xpo Xltr Xfi Xse Xth Ksz_294 Kcl_295 Kke_296 Asz Anu Aba Amo Aco Hsz Hla Hce Bsz Bla Bce Tma Tlc Ttc day lim low hig thr off cre rcp pay sv nx SL))))) H → va_D A (wAE cy ye0 ee ++ (wAM cy ym0 mm ++ (wAQ cy yq0 qq ++ (wAH cy yh0 hh ++ (wAB cy yb0 bb ++ wX7 cy a0 t0 t1 k0 k1 k2 s0 s1 s2 s3 s4 s5 s6 s7 s8 s9 s10 s11 hd Xle Xch Xpo Xltr Xfi Xse Xth Ksz_294 Kcl_295 Kke_296 Asz Anu Aba Amo Aco Hsz Hla Hce Bsz Bla Bce Tma Tlc Ttc day lim low hig thr off cre rcp pay sv nx SL))))) → va_S A s.heap H locs → lv_has ls 20 [(0, .ref a0), (2, .ref ym0), (3, .ref yq0), (4, .ref yh0), (5, .ref yb0), (6, .ref ye0), (7, .int z7_297), (8, .long z8_298), (10, .long z10_299), (12, .int z12_300)] → (∀ r', o = .inl r' → r' = (r, Ksz', Kcl', Kke')) → ((∀ (Ksz_301 : Int32) (Kcl_302 : Nat → Int32) (Kke_303 : Nat → Int32) (x7_304 : Int32) (x8_305 : Int64) (x10_306 : Int64) , o = (.inr (Ksz_301, Kcl_302, Kke_303, x7_304, x8_305, x10_306)) → ∀ (H : Heap) (locs : List Loc) (ls : Array Slot), va_P D vwCl (wAE cy ye0 ee ++ (wAM cy ym0 mm ++ (wAQ cy yq0 qq ++ (wAH cy yh0 hh ++ (wAB cy yb0 bb ++ wX7 cy a0 t0 t1 k0 k1 k2 s0 s1 s2 s3 s4 s5 s6 s7 s8 s9 s10 s11 hd Xle Xch Xpo Xltr Xfi Xse Xth Ksz_301 Kcl_302 Kke_303 Asz Anu Aba Amo Aco Hsz Hla Hce Bsz Bla Bce Tma Tlc Ttc day lim low hig thr off cre rcp pay sv nx SL))))) H → va_D A (wAE cy ye0 ee ++ (wAM cy ym0 mm ++ (wAQ cy yq0 qq ++ (wAH cy yh0 hh ++ (wAB cy yb0 bb ++ wX7 cy a0 t0 t1 k0 k1 k2 s0 s1 s2 s3 s4 s5 s6 s7 s8 s9 s10 s11 hd Xle Xch Xpo Xltr Xfi Xse Xth Ksz_301 Kcl_302 Kke_303 Asz Anu Aba Amo Aco Hsz Hla Hce Bsz Bla Bce Tma Tlc Ttc day lim low hig thr off cre rcp pay sv nx SL))))) → va_S A s.heap H locs → lv_has ls 20 [(0, .ref a0), (2, .ref ym0), (3, .ref yq0), (4, .ref yh0), (5, .ref yb0), (6, .ref ye0), (7, .int x7_304), (8, .long x8_305), (10, .long x10_306)] →  W p l e rmL_same s m ([.ref a0, .int p2, .ref ym0, .ref yq0, .ref yh0, .ref yb0, .ref ye0] : List Value).toArray below meth c H locs 0 0 (MQ below (xQi D cy (wAE cy ye0 ee ++ (wAM cy ym0 mm ++ (wAQ cy yq0 qq ++ (wAH cy yh0 hh ++ (wAB cy yb0 bb ++ wX7 cy a0 t0 t1 k0 k1 k2 s0 s1 s2 s3 s4 s5 s6 s7 s8 s9 s10 s11 hd Xle Xch Xpo Xltr Xfi Xse Xth Ksz' Kcl' Kke' Asz Anu Aba Amo Aco Hsz Hla Hce Bsz Bla Bce Tma Tlc Ttc day lim low hig thr off cre rcp pay sv nx SL))))) r A) ([.ref a0, .int p2, .ref ym0, .ref yq0, .ref yh0, .ref yb0, .ref ye0] : List Value).toArray s 0 0 A) (F0 m 335 ls []))) → W p l e rmL_same s m ([.ref a0, .int p2, .ref ym0, .ref yq0, .ref yh0, .ref yb0, .ref ye0] : List Value).toArray below meth c H locs 0 0 (MQ below (xQi D cy (wAE cy ye0 ee ++ (wAM cy ym0 mm ++ (wAQ cy yq0 qq ++ (wAH cy yh0 hh ++ (wAB cy yb0 bb ++ wX7 cy a0 t0 t1 k0 k1 k2 s0 s1 s2 s3 s4 s5 s6 s7 s8 s9 s10 s11 hd Xle Xch Xpo Xltr Xfi Xse Xth Ksz' Kcl' Kke' Asz Anu Aba Amo Aco Hsz Hla Hce Bsz Bla Bce Tma Tlc Ttc day lim low hig thr off cre rcp pay sv nx SL))))) r A) ([.ref a0, .int p2, .ref ym0, .ref yq0, .ref yh0, .ref yb0, .ref ye0] : List Value).toArray s 0 0 A) (F0 m 12 ls []) := by
    intro n
    induction n with
    | zero =>
      intro Ksz_294 Kcl_295 Kke_296 z7_297 z8_298 z10_299 z12_300 o_12 H locs ls hf
      rw [fL_same_L12] at hf
      cases hf
    | succ n ih =>
      intro Ksz_294 Kcl_295 Kke_296 z7_297 z8_298 z10_299 z12_300 o_12 H locs ls hf hP hD hS hl hr_12 kx_12
      rw [fL_same_L12] at hf
      have hfL_same_J243 : ∀ (Kszj : Int32) (Kclj : Nat → Int32) (Kkej : Nat → Int32) (z7j : Int32) (z8j : Int64) (z10j : Int64) (z12j : Int32) (z13j : Int32) (z14j : Int32) (z15j : Int32) (s0j : Int64) (s1j : Int64) (H : Heap) (locs : List Loc) (ls : Array Slot), fL_same_J243 mm qq hh bb Asz Anu Aba Amo Aco Hsz Hce Bsz Bce Kszj Kclj Kkej z7j z8j z10j z12j z13j z14j z15j s0j s1j (fL_same_L12 mm qq hh bb Asz Anu Aba Amo Aco Hsz Hce Bsz Bce n) = some o_12 → va_P D vwCl (wAE cy ye0 ee ++ (wAM cy ym0 mm ++ (wAQ cy yq0 qq ++ (wAH cy yh0 hh ++ (wAB cy yb0 bb ++ wX7 cy a0 t0 t1 k0 k1 k2 s0 s1 s2 s3 s4 s5 s6 s7 s8 s9 s10 s11 hd Xle Xch Xpo Xltr Xfi Xse Xth Kszj Kclj Kkej Asz Anu Aba Amo Aco Hsz Hla Hce Bsz Bla Bce Tma Tlc Ttc day lim low hig thr off cre rcp pay sv nx SL))))) H → va_D A (wAE cy ye0 ee ++ (wAM cy ym0 mm ++ (wAQ cy yq0 qq ++ (wAH cy yh0 hh ++ (wAB cy yb0 bb ++ wX7 cy a0 t0 t1 k0 k1 k2 s0 s1 s2 s3 s4 s5 s6 s7 s8 s9 s10 s11 hd Xle Xch Xpo Xltr Xfi Xse Xth Kszj Kclj Kkej Asz Anu Aba Amo Aco Hsz Hla Hce Bsz Bla Bce Tma Tlc Ttc day lim low hig thr off cre rcp pay sv nx SL))))) → va_S A s.heap H locs → lv_has ls 20 [(0, .ref a0), (2, .ref ym0), (3, .ref yq0), (4, .ref yh0), (5, .ref yb0), (6, .ref ye0), (7, .int z7j), (8, .long z8j), (10, .long z10j), (12, .int z12j), (13, .int z13j), (14, .int z14j), (15, .int z15j)] → W p l e rmL_same s m ([.ref a0, .int p2, .ref ym0, .ref yq0, .ref yh0, .ref yb0, .ref ye0] : List Value).toArray below meth c H locs 0 0 (MQ below (xQi D cy (wAE cy ye0 ee ++ (wAM cy ym0 mm ++ (wAQ cy yq0 qq ++ (wAH cy yh0 hh ++ (wAB cy yb0 bb ++ wX7 cy a0 t0 t1 k0 k1 k2 s0 s1 s2 s3 s4 s5 s6 s7 s8 s9 s10 s11 hd Xle Xch Xpo Xltr Xfi Xse Xth Ksz' Kcl' Kke' Asz Anu Aba Amo Aco Hsz Hla Hce Bsz Bla Bce Tma Tlc Ttc day lim low hig thr off cre rcp pay sv nx SL))))) r A) ([.ref a0, .int p2, .ref ym0, .ref yq0, .ref yh0, .ref yb0, .ref ye0] : List Value).toArray s 0 0 A) (F0 m 243 ls [.long s0j, .long s1j]) := by
        intro Kszj Kclj Kkej z7j z8j z10j z12j z13j z14j z15j s0j s1j H locs ls hf hP hD hS hl
        unfold fL_same_J243 at hf
        refine W.lcmp hx hb dL_same_243 ?_
        refine lv_if_ne (tgt := 302) hx hb dL_same_244 (by decide) (fun c_339 => ?_) (fun c_339 => ?_)
        · have c_339 := fun q => c_339 ((lg_cmp_eq _ _).mpr q)
          have hf := x_f c_339 hf
          refine lv_iconst (v := 0) hx hb dL_same_302 (by decide) ?_
          have hf := Option.some.inj hf
          have hf := (hr_12 _ hf.symm)
          cases hf
          exact x_zret hx hb hr hlocks hK hP hD hS rfl dL_same_303
        · have c_339 := (lg_cmp_eq _ _).mp c_339
          have hf := x_t c_339 hf
          refine lv_aload_n hx hb dL_same_247 rfl (lv_at hl 0 rfl) ?_
          refine lv_iload hx hb dL_same_248 (lv_at hl 9 rfl) ?_
          refine lv_iconst (v := 4) hx hb dL_same_250 (by decide) ?_
          obtain ⟨r_340, h_341, hf⟩ := bd1_el hf
          refine x_callVi (As := [.int z12j, .int 4]) (rest := []) ⟨hx, hb, hml, hown, hts⟩ (mX7_of l D cy a0 t0 t1 k0 k1 k2 s0 s1 s2 s3 s4 s5 s6 s7 s8 s9 s10 s11 hd Xle Xch Xpo Xltr Xfi Xse Xth Kszj Kclj Kkej Asz Anu Aba Amo Aco Hsz Hla Hce Bsz Bla Bce Tma Tlc Ttc day lim low hig thr off cre rcp pay sv nx SL z12j 4 r_340 h_341) (cwV 2 hts (gcV_X7_of hbg wm_19_17) rfl rfl rfl kdX7_of ⟨Nat.le_of_ble_eq_true rfl, Nat.le_of_ble_eq_true rfl⟩) (w1 := wAE cy ye0 ee ++ (wAM cy ym0 mm ++ (wAQ cy yq0 qq ++ (wAH cy yh0 hh ++ (wAB cy yb0 bb))))) (w2 := []) (w' := wAE cy ye0 ee ++ (wAM cy ym0 mm ++ (wAQ cy yq0 qq ++ (wAH cy yh0 hh ++ (wAB cy yb0 bb ++ wX7 cy a0 t0 t1 k0 k1 k2 s0 s1 s2 s3 s4 s5 s6 s7 s8 s9 s10 s11 hd Xle Xch Xpo Xltr Xfi Xse Xth Kszj Kclj Kkej Asz Anu Aba Amo Aco Hsz Hla Hce Bsz Bla Bce Tma Tlc Ttc day lim low hig thr off cre rcp pay sv nx SL))))) (by simp only [List.append_assoc, List.append_nil, List.nil_append]) (by simp only [List.append_assoc, List.append_nil, List.nil_append]) hP hK hD hN hS hA (q0 := 0) rfl rfl rfl rfl hl rfl (Nat.le_of_ble_eq_true rfl) dL_same_251 ⟨Nat.zero_le _, Nat.zero_le _⟩ (fun H locs hP hD hS => ?_)
          refine lv_iload hx hb dL_same_254 (lv_at hl 12 rfl) ?_
          refine lv_icmp_ne (tgt := 302) hx hb dL_same_256 (by decide) (fun c_342 => ?_) (fun c_342 => ?_)
          · have hf := x_f c_342 hf
            refine lv_iconst (v := 0) hx hb dL_same_302 (by decide) ?_
            have hf := Option.some.inj hf
            have hf := (hr_12 _ hf.symm)
            cases hf
            exact x_zret hx hb hr hlocks hK hP hD hS rfl dL_same_303
          · have hf := x_t c_342 hf
            refine lv_aload_n hx hb dL_same_259 rfl (lv_at hl 0 rfl) ?_
            refine lv_iload hx hb dL_same_260 (lv_at hl 9 rfl) ?_
            refine lv_iconst (v := 5) hx hb dL_same_262 (by decide) ?_
            obtain ⟨r_343, h_344, hf⟩ := bd1_el hf
            refine x_callVi (As := [.int z12j, .int 5]) (rest := []) ⟨hx, hb, hml, hown, hts⟩ (mX7_of l D cy a0 t0 t1 k0 k1 k2 s0 s1 s2 s3 s4 s5 s6 s7 s8 s9 s10 s11 hd Xle Xch Xpo Xltr Xfi Xse Xth Kszj Kclj Kkej Asz Anu Aba Amo Aco Hsz Hla Hce Bsz Bla Bce Tma Tlc Ttc day lim low hig thr off cre rcp pay sv nx SL z12j 5 r_343 h_344) (cwV 2 hts (gcV_X7_of hbg wm_19_17) rfl rfl rfl kdX7_of ⟨Nat.le_of_ble_eq_true rfl, Nat.le_of_ble_eq_true rfl⟩) (w1 := wAE cy ye0 ee ++ (wAM cy ym0 mm ++ (wAQ cy yq0 qq ++ (wAH cy yh0 hh ++ (wAB cy yb0 bb))))) (w2 := []) (w' := wAE cy ye0 ee ++ (wAM cy ym0 mm ++ (wAQ cy yq0 qq ++ (wAH cy yh0 hh ++ (wAB cy yb0 bb ++ wX7 cy a0 t0 t1 k0 k1 k2 s0 s1 s2 s3 s4 s5 s6 s7 s8 s9 s10 s11 hd Xle Xch Xpo Xltr Xfi Xse Xth Kszj Kclj Kkej Asz Anu Aba Amo Aco Hsz Hla Hce Bsz Bla Bce Tma Tlc Ttc day lim low hig thr off cre rcp pay sv nx SL))))) (by simp only [List.append_assoc, List.append_nil, List.nil_append]) (by simp only [List.append_assoc, List.append_nil, List.nil_append]) hP hK hD hN hS hA (q0 := 0) rfl rfl rfl rfl hl rfl (Nat.le_of_ble_eq_true rfl) dL_same_263 ⟨Nat.zero_le _, Nat.zero_le _⟩ (fun H locs hP hD hS => ?_)
            refine lv_aload_n hx hb dL_same_266 rfl (lv_at hl 2 rfl) ?_
            refine lv_bipush (v := 10) hx hb dL_same_267 (by decide) ?_
            refine lv_iload hx hb dL_same_269 (lv_at hl 9 rfl) ?_
            refine lv_iadd hx hb dL_same_271 ?_
            obtain ⟨hi_345, hf⟩ := ckI_el hf
            refine va_iald hx hb hK hP 2 1 rfl rfl hi_345 dL_same_272 ?_
            refine lv_icmp_ne (tgt := 302) hx hb dL_same_273 (by decide) (fun c_346 => ?_) (fun c_346 => ?_)
            · have hf := x_f c_346 hf
              refine lv_iconst (v := 0) hx hb dL_same_302 (by decide) ?_
              have hf := Option.some.inj hf
              have hf := (hr_12 _ hf.symm)
              cases hf
              exact x_zret hx hb hr hlocks hK hP hD hS rfl dL_same_303
            · have hf := x_t c_346 hf
              refine lv_aload_n hx hb dL_same_276 rfl (lv_at hl 0 rfl) ?_
              refine lv_iload hx hb dL_same_277 (lv_at hl 9 rfl) ?_
              refine lv_bipush (v := 6) hx hb dL_same_279 (by decide) ?_
              obtain ⟨r_347, h_348, hf⟩ := bd1_el hf
              refine x_callVi (As := [.int z12j, .int 6]) (rest := []) ⟨hx, hb, hml, hown, hts⟩ (mX7_of l D cy a0 t0 t1 k0 k1 k2 s0 s1 s2 s3 s4 s5 s6 s7 s8 s9 s10 s11 hd Xle Xch Xpo Xltr Xfi Xse Xth Kszj Kclj Kkej Asz Anu Aba Amo Aco Hsz Hla Hce Bsz Bla Bce Tma Tlc Ttc day lim low hig thr off cre rcp pay sv nx SL z12j 6 r_347 h_348) (cwV 2 hts (gcV_X7_of hbg wm_19_17) rfl rfl rfl kdX7_of ⟨Nat.le_of_ble_eq_true rfl, Nat.le_of_ble_eq_true rfl⟩) (w1 := wAE cy ye0 ee ++ (wAM cy ym0 mm ++ (wAQ cy yq0 qq ++ (wAH cy yh0 hh ++ (wAB cy yb0 bb))))) (w2 := []) (w' := wAE cy ye0 ee ++ (wAM cy ym0 mm ++ (wAQ cy yq0 qq ++ (wAH cy yh0 hh ++ (wAB cy yb0 bb ++ wX7 cy a0 t0 t1 k0 k1 k2 s0 s1 s2 s3 s4 s5 s6 s7 s8 s9 s10 s11 hd Xle Xch Xpo Xltr Xfi Xse Xth Kszj Kclj Kkej Asz Anu Aba Amo Aco Hsz Hla Hce Bsz Bla Bce Tma Tlc Ttc day lim low hig thr off cre rcp pay sv nx SL))))) (by simp only [List.append_assoc, List.append_nil, List.nil_append]) (by simp only [List.append_assoc, List.append_nil, List.nil_append]) hP hK hD hN hS hA (q0 := 0) rfl rfl rfl rfl hl rfl (Nat.le_of_ble_eq_true rfl) dL_same_281 ⟨Nat.zero_le _, Nat.zero_le _⟩ (fun H locs hP hD hS => ?_)
              refine lv_iload hx hb dL_same_284 (lv_at hl 10 rfl) ?_
              refine lv_icmp_ne (tgt := 302) hx hb dL_same_286 (by decide) (fun c_349 => ?_) (fun c_349 => ?_)
              · have hf := x_f c_349 hf
                refine lv_iconst (v := 0) hx hb dL_same_302 (by decide) ?_
                have hf := Option.some.inj hf
                have hf := (hr_12 _ hf.symm)
                cases hf
                exact x_zret hx hb hr hlocks hK hP hD hS rfl dL_same_303
              · have hf := x_t c_349 hf
                refine lv_aload_n hx hb dL_same_289 rfl (lv_at hl 0 rfl) ?_
                refine lv_iload hx hb dL_same_290 (lv_at hl 9 rfl) ?_
                refine lv_bipush (v := 7) hx hb dL_same_292 (by decide) ?_
                obtain ⟨r_350, h_351, hf⟩ := bd1_el hf
                refine x_callVi (As := [.int z12j, .int 7]) (rest := []) ⟨hx, hb, hml, hown, hts⟩ (mX7_of l D cy a0 t0 t1 k0 k1 k2 s0 s1 s2 s3 s4 s5 s6 s7 s8 s9 s10 s11 hd Xle Xch Xpo Xltr Xfi Xse Xth Kszj Kclj Kkej Asz Anu Aba Amo Aco Hsz Hla Hce Bsz Bla Bce Tma Tlc Ttc day lim low hig thr off cre rcp pay sv nx SL z12j 7 r_350 h_351) (cwV 2 hts (gcV_X7_of hbg wm_19_17) rfl rfl rfl kdX7_of ⟨Nat.le_of_ble_eq_true rfl, Nat.le_of_ble_eq_true rfl⟩) (w1 := wAE cy ye0 ee ++ (wAM cy ym0 mm ++ (wAQ cy yq0 qq ++ (wAH cy yh0 hh ++ (wAB cy yb0 bb))))) (w2 := []) (w' := wAE cy ye0 ee ++ (wAM cy ym0 mm ++ (wAQ cy yq0 qq ++ (wAH cy yh0 hh ++ (wAB cy yb0 bb ++ wX7 cy a0 t0 t1 k0 k1 k2 s0 s1 s2 s3 s4 s5 s6 s7 s8 s9 s10 s11 hd Xle Xch Xpo Xltr Xfi Xse Xth Kszj Kclj Kkej Asz Anu Aba Amo Aco Hsz Hla Hce Bsz Bla Bce Tma Tlc Ttc day lim low hig thr off cre rcp pay sv nx SL))))) (by simp only [List.append_assoc, List.append_nil, List.nil_append]) (by simp only [List.append_assoc, List.append_nil, List.nil_append]) hP hK hD hN hS hA (q0 := 0) rfl rfl rfl rfl hl rfl (Nat.le_of_ble_eq_true rfl) dL_same_294 ⟨Nat.zero_le _, Nat.zero_le _⟩ (fun H locs hP hD hS => ?_)
                refine lv_iload hx hb dL_same_297 (lv_at hl 11 rfl) ?_
                refine lv_icmp_eq (tgt := 304) hx hb dL_same_299 (by decide) (fun c_352 => ?_) (fun c_352 => ?_)
                · have hf := x_t c_352 hf
                  refine lv_lload hx hb dL_same_304 (lv_at hl 7 rfl) ?_
                  refine lv_aload_n hx hb dL_same_306 rfl (lv_at hl 1 rfl) ?_
                  refine lv_iload hx hb dL_same_307 (lv_at hl 9 rfl) ?_
                  obtain ⟨hi_353, hf⟩ := ckI_el hf
                  refine va_lald hx hb hK hP 1 2 rfl rfl hi_353 dL_same_309 ?_
                  refine lv_ladd hx hb dL_same_310 ?_
                  obtain ⟨x8_354, ex8_354, hf⟩ := lt_el hf
                  refine x_topl ex8_354 ?_
                  refine lv_lstore (lv' := [(8, .long x8_354), (0, .ref a0), (2, .ref ym0), (3, .ref yq0), (4, .ref yh0), (5, .ref yb0), (6, .ref ye0), (7, .int z7j), (10, .long z10j), (12, .int z12j), (13, .int z13j), (14, .int z14j), (15, .int z15j)]) hx hb dL_same_311 hl (by decide) rfl (fun ls hl => ?_)
                  refine lv_lload hx hb dL_same_313 (lv_at hl 8 rfl) ?_
                  refine lv_iload hx hb dL_same_315 (lv_at hl 9 rfl) ?_
                  refine lv_aload_n hx hb dL_same_317 rfl (lv_at hl 3 rfl) ?_
                  refine lv_iconst (v := 0) hx hb dL_same_318 (by decide) ?_
                  obtain ⟨hi_355, hf⟩ := ckI_el hf
                  refine va_iald hx hb hK hP 2 1 rfl rfl hi_355 dL_same_319 ?_
                  refine lv_aload hx hb dL_same_320 (lv_at hl 4 rfl) ?_
                  obtain ⟨r_356, h_357, hf⟩ := bd1_el hf
                  refine x_callSi (As := [.int z12j, .int (qq (0 : Int32).toNatClampNeg), .ref yh0]) (rest := [.long z10j]) ⟨hx, hb, hml, hown, hts⟩ (mL_held l D cy yh0 hh z12j (qq (0 : Int32).toNatClampNeg) r_356 h_357) (va_cwS 3 hts (gcS_L_held hbg wm_10_10) rfl rfl rfl kdL_held ⟨Nat.le_of_ble_eq_true rfl, Nat.le_of_ble_eq_true rfl⟩) (w1 := wAE cy ye0 ee ++ (wAM cy ym0 mm ++ (wAQ cy yq0 qq))) (w2 := wAB cy yb0 bb ++ (wX7 cy a0 t0 t1 k0 k1 k2 s0 s1 s2 s3 s4 s5 s6 s7 s8 s9 s10 s11 hd Xle Xch Xpo Xltr Xfi Xse Xth Kszj Kclj Kkej Asz Anu Aba Amo Aco Hsz Hla Hce Bsz Bla Bce Tma Tlc Ttc day lim low hig thr off cre rcp pay sv nx SL)) (w' := wAE cy ye0 ee ++ (wAM cy ym0 mm ++ (wAQ cy yq0 qq ++ (wAH cy yh0 hh ++ (wAB cy yb0 bb ++ wX7 cy a0 t0 t1 k0 k1 k2 s0 s1 s2 s3 s4 s5 s6 s7 s8 s9 s10 s11 hd Xle Xch Xpo Xltr Xfi Xse Xth Kszj Kclj Kkej Asz Anu Aba Amo Aco Hsz Hla Hce Bsz Bla Bce Tma Tlc Ttc day lim low hig thr off cre rcp pay sv nx SL))))) (by simp only [List.append_assoc, List.append_nil, List.nil_append]) (by simp only [List.append_assoc, List.append_nil, List.nil_append]) hP hK hD hN hS hA rfl hl rfl (Nat.le_of_ble_eq_true rfl) dL_same_322 ⟨Nat.zero_le _, Nat.zero_le _⟩ (fun H locs hP hD hS => ?_)
                  refine lv_i2l (v := r_356.toInt64) hx hb dL_same_325 rfl ?_
                  refine lv_ladd hx hb dL_same_326 ?_
                  obtain ⟨x10_358, ex10_358, hf⟩ := lt_el hf
                  refine x_topl ex10_358 ?_
                  refine lv_lstore (lv' := [(10, .long x10_358), (8, .long x8_354), (0, .ref a0), (2, .ref ym0), (3, .ref yq0), (4, .ref yh0), (5, .ref yb0), (6, .ref ye0), (7, .int z7j), (12, .int z12j), (13, .int z13j), (14, .int z14j), (15, .int z15j)]) hx hb dL_same_327 hl (by decide) rfl (fun ls hl => ?_)
                  refine lv_iinc (v := (z12j + 1)) (lv' := [(12, .int (z12j + 1)), (10, .long x10_358), (8, .long x8_354), (0, .ref a0), (2, .ref ym0), (3, .ref yq0), (4, .ref yh0), (5, .ref yb0), (6, .ref ye0), (7, .int z7j), (13, .int z13j), (14, .int z14j), (15, .int z15j)]) hx hb dL_same_329 hl (k := 9) rfl rfl (by decide) rfl (fun ls hl => ?_)
                  refine lv_goto (tgt := 12) hx hb dL_same_332 (by decide) ?_
                  exact ih Kszj Kclj Kkej z7j x8_354 x10_358 (z12j + 1) _ _ _ _ hf hP hD hS (lv_sub hl [3, 4, 5, 6, 7, 8, 9, 2, 1, 0] rfl) hr_12 kx_12
                · have hf := x_f c_352 hf
                  refine lv_iconst (v := 0) hx hb dL_same_302 (by decide) ?_
                  have hf := Option.some.inj hf
                  have hf := (hr_12 _ hf.symm)
                  cases hf
                  exact x_zret hx hb hr hlocks hK hP hD hS rfl dL_same_303
      refine lv_iload hx hb dL_same_12 (lv_at hl 9 rfl) ?_
      refine lv_bipush (v := 7) hx hb dL_same_14 (by decide) ?_
      refine lv_icmp_ge (tgt := 335) hx hb dL_same_16 (by decide) (fun c_307 => ?_) (fun c_307 => ?_)
      · have hf := x_t c_307 hf
        exact kx_12 Ksz_294 Kcl_295 Kke_296 z7_297 z8_298 z10_299 (Option.some.inj hf).symm _ _ _ hP hD hS (lv_sub hl [0, 1, 2, 3, 4, 5, 6, 7, 8] rfl)
      · have hf := x_f c_307 hf
        refine lv_aload_n hx hb dL_same_19 rfl (lv_at hl 2 rfl) ?_
        refine lv_bipush (v := 10) hx hb dL_same_20 (by decide) ?_
        refine lv_iload hx hb dL_same_22 (lv_at hl 9 rfl) ?_
        refine lv_iadd hx hb dL_same_24 ?_
        obtain ⟨hi_308, hf⟩ := ckI_el hf
        refine va_iald hx hb hK hP 2 1 rfl rfl hi_308 dL_same_25 ?_
        refine lv_if_ge (tgt := 42) hx hb dL_same_26 (by decide) (fun c_309 => ?_) (fun c_309 => ?_)
        · have hf := x_t c_309 hf
          refine lv_aload_n hx hb dL_same_42 rfl (lv_at hl 0 rfl) ?_
          refine lv_iconst (v := 0) hx hb dL_same_43 (by decide) ?_
          refine lv_iload hx hb dL_same_44 (lv_at hl 6 rfl) ?_
          obtain ⟨r_310, Ksz_311, Kcl_312, Kke_313, h_314, hf⟩ := bd4_el hf
          refine x_callVi (As := [.int 0, .int z7_297]) (rest := []) ⟨hx, hb, hml, hown, hts⟩ (mX7_ranked l D cy a0 t0 t1 k0 k1 k2 s0 s1 s2 s3 s4 s5 s6 s7 s8 s9 s10 s11 hd Xle Xch Xpo Xltr Xfi Xse Xth Ksz_294 Kcl_295 Kke_296 Asz Anu Aba Amo Aco Hsz Hla Hce Bsz Bla Bce Tma Tlc Ttc day lim low hig thr off cre rcp pay sv nx SL 0 z7_297 r_310 Ksz_311 Kcl_312 Kke_313 h_314) (cwV 2 hts (gcV_X7_ranked hbg wm_20_6) rfl rfl rfl kdX7_ranked ⟨Nat.le_of_ble_eq_true rfl, Nat.le_of_ble_eq_true rfl⟩) (w1 := wAE cy ye0 ee ++ (wAM cy ym0 mm ++ (wAQ cy yq0 qq ++ (wAH cy yh0 hh ++ (wAB cy yb0 bb))))) (w2 := []) (w' := wAE cy ye0 ee ++ (wAM cy ym0 mm ++ (wAQ cy yq0 qq ++ (wAH cy yh0 hh ++ (wAB cy yb0 bb ++ wX7 cy a0 t0 t1 k0 k1 k2 s0 s1 s2 s3 s4 s5 s6 s7 s8 s9 s10 s11 hd Xle Xch Xpo Xltr Xfi Xse Xth Ksz_311 Kcl_312 Kke_313 Asz Anu Aba Amo Aco Hsz Hla Hce Bsz Bla Bce Tma Tlc Ttc day lim low hig thr off cre rcp pay sv nx SL))))) (by simp only [List.append_assoc, List.append_nil, List.nil_append]) (by simp only [List.append_assoc, List.append_nil, List.nil_append]) hP hK hD hN hS hA (q0 := 0) rfl rfl rfl rfl hl rfl (Nat.le_of_ble_eq_true rfl) dL_same_46 ⟨Nat.zero_le _, Nat.zero_le _⟩ (fun H locs hP hD hS => ?_)
          refine lv_iload hx hb dL_same_49 (lv_at hl 9 rfl) ?_
          refine lv_icmp_eq (tgt := 56) hx hb dL_same_51 (by decide) (fun c_315 => ?_) (fun c_315 => ?_)
          · have hf := x_t c_315 hf
            refine lv_iinc (v := (z7_297 + 1)) (lv' := [(7, .int (z7_297 + 1)), (0, .ref a0), (2, .ref ym0), (3, .ref yq0), (4, .ref yh0), (5, .ref yb0), (6, .ref ye0), (8, .long z8_298), (10, .long z10_299), (12, .int z12_300)]) hx hb dL_same_56 hl (k := 6) rfl rfl (by decide) rfl (fun ls hl => ?_)
            refine lv_iconst (v := 0) hx hb dL_same_59 (by decide) ?_
            refine lv_istore (lv' := [(13, .int 0), (7, .int (z7_297 + 1)), (0, .ref a0), (2, .ref ym0), (3, .ref yq0), (4, .ref yh0), (5, .ref yb0), (6, .ref ye0), (8, .long z8_298), (10, .long z10_299), (12, .int z12_300)]) hx hb dL_same_60 hl (by decide) rfl (fun ls hl => ?_)
            refine lv_iconst (v := 0) hx hb dL_same_62 (by decide) ?_
            refine lv_istore (lv' := [(14, .int 0), (13, .int 0), (7, .int (z7_297 + 1)), (0, .ref a0), (2, .ref ym0), (3, .ref yq0), (4, .ref yh0), (5, .ref yb0), (6, .ref ye0), (8, .long z8_298), (10, .long z10_299), (12, .int z12_300)]) hx hb dL_same_63 hl (by decide) rfl (fun ls hl => ?_)
            refine lv_iconst (v := 0) hx hb dL_same_65 (by decide) ?_
            refine lv_istore (lv' := [(15, .int 0), (14, .int 0), (13, .int 0), (7, .int (z7_297 + 1)), (0, .ref a0), (2, .ref ym0), (3, .ref yq0), (4, .ref yh0), (5, .ref yb0), (6, .ref ye0), (8, .long z8_298), (10, .long z10_299), (12, .int z12_300)]) hx hb dL_same_66 hl (by decide) rfl (fun ls hl => ?_)
            refine lv_iconst (v := 0) hx hb dL_same_68 (by decide) ?_
            refine lv_istore (lv' := [(16, .int 0), (15, .int 0), (14, .int 0), (13, .int 0), (7, .int (z7_297 + 1)), (0, .ref a0), (2, .ref ym0), (3, .ref yq0), (4, .ref yh0), (5, .ref yb0), (6, .ref ye0), (8, .long z8_298), (10, .long z10_299), (12, .int z12_300)]) hx hb dL_same_69 hl (by decide) rfl (fun ls hl => ?_)
            have hL_71 : ∀ (n : Nat) (z13_359 : Int32) (z14_360 : Int32) (z15_361 : Int32) (z16_362 : Int32) (o : Int32 × Int32 × Int32) (H : Heap) (locs : List Loc) (ls : Array Slot), fL_same_L71 hh bb (z7_297 + 1) z8_298 z10_299 z12_300 n z13_359 z14_360 z15_361 z16_362 = some o → va_P D vwCl (wAE cy ye0 ee ++ (wAM cy ym0 mm ++ (wAQ cy yq0 qq ++ (wAH cy yh0 hh ++ (wAB cy yb0 bb ++ wX7 cy a0 t0 t1 k0 k1 k2 s0 s1 s2 s3 s4 s5 s6 s7 s8 s9 s10 s11 hd Xle Xch Xpo Xltr Xfi Xse Xth Ksz_311 Kcl_312 Kke_313 Asz Anu Aba Amo Aco Hsz Hla Hce Bsz Bla Bce Tma Tlc Ttc day lim low hig thr off cre rcp pay sv nx SL))))) H → va_D A (wAE cy ye0 ee ++ (wAM cy ym0 mm ++ (wAQ cy yq0 qq ++ (wAH cy yh0 hh ++ (wAB cy yb0 bb ++ wX7 cy a0 t0 t1 k0 k1 k2 s0 s1 s2 s3 s4 s5 s6 s7 s8 s9 s10 s11 hd Xle Xch Xpo Xltr Xfi Xse Xth Ksz_311 Kcl_312 Kke_313 Asz Anu Aba Amo Aco Hsz Hla Hce Bsz Bla Bce Tma Tlc Ttc day lim low hig thr off cre rcp pay sv nx SL))))) → va_S A s.heap H locs → lv_has ls 20 [(0, .ref a0), (2, .ref ym0), (3, .ref yq0), (4, .ref yh0), (5, .ref yb0), (6, .ref ye0), (7, .int (z7_297 + 1)), (8, .long z8_298), (10, .long z10_299), (12, .int z12_300), (13, .int z13_359), (14, .int z14_360), (15, .int z15_361), (16, .int z16_362)] → True → ((∀ (x13_363 : Int32) (x14_364 : Int32) (x15_365 : Int32) , o = (x13_363, x14_364, x15_365) → ∀ (H : Heap) (locs : List Loc) (ls : Array Slot), va_P D vwCl (wAE cy ye0 ee ++ (wAM cy ym0 mm ++ (wAQ cy yq0 qq ++ (wAH cy yh0 hh ++ (wAB cy yb0 bb ++ wX7 cy a0 t0 t1 k0 k1 k2 s0 s1 s2 s3 s4 s5 s6 s7 s8 s9 s10 s11 hd Xle Xch Xpo Xltr Xfi Xse Xth Ksz_311 Kcl_312 Kke_313 Asz Anu Aba Amo Aco Hsz Hla Hce Bsz Bla Bce Tma Tlc Ttc day lim low hig thr off cre rcp pay sv nx SL))))) H → va_D A (wAE cy ye0 ee ++ (wAM cy ym0 mm ++ (wAQ cy yq0 qq ++ (wAH cy yh0 hh ++ (wAB cy yb0 bb ++ wX7 cy a0 t0 t1 k0 k1 k2 s0 s1 s2 s3 s4 s5 s6 s7 s8 s9 s10 s11 hd Xle Xch Xpo Xltr Xfi Xse Xth Ksz_311 Kcl_312 Kke_313 Asz Anu Aba Amo Aco Hsz Hla Hce Bsz Bla Bce Tma Tlc Ttc day lim low hig thr off cre rcp pay sv nx SL))))) → va_S A s.heap H locs → lv_has ls 20 [(0, .ref a0), (2, .ref ym0), (3, .ref yq0), (4, .ref yh0), (5, .ref yb0), (6, .ref ye0), (7, .int (z7_297 + 1)), (8, .long z8_298), (10, .long z10_299), (12, .int z12_300), (13, .int x13_363), (14, .int x14_364), (15, .int x15_365)] →  W p l e rmL_same s m ([.ref a0, .int p2, .ref ym0, .ref yq0, .ref yh0, .ref yb0, .ref ye0] : List Value).toArray below meth c H locs 0 0 (MQ below (xQi D cy (wAE cy ye0 ee ++ (wAM cy ym0 mm ++ (wAQ cy yq0 qq ++ (wAH cy yh0 hh ++ (wAB cy yb0 bb ++ wX7 cy a0 t0 t1 k0 k1 k2 s0 s1 s2 s3 s4 s5 s6 s7 s8 s9 s10 s11 hd Xle Xch Xpo Xltr Xfi Xse Xth Ksz' Kcl' Kke' Asz Anu Aba Amo Aco Hsz Hla Hce Bsz Bla Bce Tma Tlc Ttc day lim low hig thr off cre rcp pay sv nx SL))))) r A) ([.ref a0, .int p2, .ref ym0, .ref yq0, .ref yh0, .ref yb0, .ref ye0] : List Value).toArray s 0 0 A) (F0 m 150 ls []))) → W p l e rmL_same s m ([.ref a0, .int p2, .ref ym0, .ref yq0, .ref yh0, .ref yb0, .ref ye0] : List Value).toArray below meth c H locs 0 0 (MQ below (xQi D cy (wAE cy ye0 ee ++ (wAM cy ym0 mm ++ (wAQ cy yq0 qq ++ (wAH cy yh0 hh ++ (wAB cy yb0 bb ++ wX7 cy a0 t0 t1 k0 k1 k2 s0 s1 s2 s3 s4 s5 s6 s7 s8 s9 s10 s11 hd Xle Xch Xpo Xltr Xfi Xse Xth Ksz' Kcl' Kke' Asz Anu Aba Amo Aco Hsz Hla Hce Bsz Bla Bce Tma Tlc Ttc day lim low hig thr off cre rcp pay sv nx SL))))) r A) ([.ref a0, .int p2, .ref ym0, .ref yq0, .ref yh0, .ref yb0, .ref ye0] : List Value).toArray s 0 0 A) (F0 m 71 ls []) := by
              intro n
              induction n with
              | zero =>
                intro z13_359 z14_360 z15_361 z16_362 o_71 H locs ls hf
                rw [fL_same_L71] at hf
                cases hf
              | succ n ih =>
                intro z13_359 z14_360 z15_361 z16_362 o_71 H locs ls hf hP hD hS hl hr_71 kx_71
                rw [fL_same_L71] at hf
                have hfL_same_J115 : ∀ (z13j : Int32) (z15j : Int32) (z16j : Int32) (s0j : Int32) (s1j : Int32) (H : Heap) (locs : List Loc) (ls : Array Slot), fL_same_J115 hh bb (z7_297 + 1) z8_298 z10_299 z12_300 z13j z15j z16j s0j s1j (fL_same_L71 hh bb (z7_297 + 1) z8_298 z10_299 z12_300 n) = some o_71 → va_P D vwCl (wAE cy ye0 ee ++ (wAM cy ym0 mm ++ (wAQ cy yq0 qq ++ (wAH cy yh0 hh ++ (wAB cy yb0 bb ++ wX7 cy a0 t0 t1 k0 k1 k2 s0 s1 s2 s3 s4 s5 s6 s7 s8 s9 s10 s11 hd Xle Xch Xpo Xltr Xfi Xse Xth Ksz_311 Kcl_312 Kke_313 Asz Anu Aba Amo Aco Hsz Hla Hce Bsz Bla Bce Tma Tlc Ttc day lim low hig thr off cre rcp pay sv nx SL))))) H → va_D A (wAE cy ye0 ee ++ (wAM cy ym0 mm ++ (wAQ cy yq0 qq ++ (wAH cy yh0 hh ++ (wAB cy yb0 bb ++ wX7 cy a0 t0 t1 k0 k1 k2 s0 s1 s2 s3 s4 s5 s6 s7 s8 s9 s10 s11 hd Xle Xch Xpo Xltr Xfi Xse Xth Ksz_311 Kcl_312 Kke_313 Asz Anu Aba Amo Aco Hsz Hla Hce Bsz Bla Bce Tma Tlc Ttc day lim low hig thr off cre rcp pay sv nx SL))))) → va_S A s.heap H locs → lv_has ls 20 [(0, .ref a0), (2, .ref ym0), (3, .ref yq0), (4, .ref yh0), (5, .ref yb0), (6, .ref ye0), (7, .int (z7_297 + 1)), (8, .long z8_298), (10, .long z10_299), (12, .int z12_300), (13, .int z13j), (15, .int z15j), (16, .int z16j)] → W p l e rmL_same s m ([.ref a0, .int p2, .ref ym0, .ref yq0, .ref yh0, .ref yb0, .ref ye0] : List Value).toArray below meth c H locs 0 0 (MQ below (xQi D cy (wAE cy ye0 ee ++ (wAM cy ym0 mm ++ (wAQ cy yq0 qq ++ (wAH cy yh0 hh ++ (wAB cy yb0 bb ++ wX7 cy a0 t0 t1 k0 k1 k2 s0 s1 s2 s3 s4 s5 s6 s7 s8 s9 s10 s11 hd Xle Xch Xpo Xltr Xfi Xse Xth Ksz' Kcl' Kke' Asz Anu Aba Amo Aco Hsz Hla Hce Bsz Bla Bce Tma Tlc Ttc day lim low hig thr off cre rcp pay sv nx SL))))) r A) ([.ref a0, .int p2, .ref ym0, .ref yq0, .ref yh0, .ref yb0, .ref ye0] : List Value).toArray s 0 0 A) (F0 m 115 ls [.int s0j, .int s1j]) := by
                  intro z13j z15j z16j s0j s1j H locs ls hf hP hD hS hl
                  unfold fL_same_J115 at hf
                  refine lv_iadd hx hb dL_same_115 ?_
                  obtain ⟨x14_372, ex14_372, hf⟩ := lt_el hf
                  refine x_topi ex14_372 ?_
                  refine lv_istore (lv' := [(14, .int x14_372), (0, .ref a0), (2, .ref ym0), (3, .ref yq0), (4, .ref yh0), (5, .ref yb0), (6, .ref ye0), (7, .int (z7_297 + 1)), (8, .long z8_298), (10, .long z10_299), (12, .int z12_300), (13, .int z13j), (15, .int z15j), (16, .int z16j)]) hx hb dL_same_116 hl (by decide) rfl (fun ls hl => ?_)
                  refine lv_iload hx hb dL_same_118 (lv_at hl 12 rfl) ?_
                  refine lv_aload hx hb dL_same_120 (lv_at hl 5 rfl) ?_
                  refine lv_iload hx hb dL_same_122 (lv_at hl 13 rfl) ?_
                  obtain ⟨hi_373, hf⟩ := ckI_el hf
                  refine va_iald hx hb hK hP 4 1 rfl rfl hi_373 dL_same_124 ?_
                  refine lv_iload hx hb dL_same_125 (lv_at hl 10 rfl) ?_
                  refine lv_icmp_ne (tgt := 140) hx hb dL_same_127 (by decide) (fun c_374 => ?_) (fun c_374 => ?_)
                  · have hf := x_f c_374 hf
                    refine lv_iconst (v := 0) hx hb dL_same_140 (by decide) ?_
                    refine lv_iadd hx hb dL_same_141 ?_
                    obtain ⟨x15_375, ex15_375, hf⟩ := lt_el hf
                    refine x_topi ex15_375 ?_
                    refine lv_istore (lv' := [(15, .int x15_375), (14, .int x14_372), (0, .ref a0), (2, .ref ym0), (3, .ref yq0), (4, .ref yh0), (5, .ref yb0), (6, .ref ye0), (7, .int (z7_297 + 1)), (8, .long z8_298), (10, .long z10_299), (12, .int z12_300), (13, .int z13j), (16, .int z16j)]) hx hb dL_same_142 hl (by decide) rfl (fun ls hl => ?_)
                    refine lv_iinc (v := (z16j + 3)) (lv' := [(16, .int (z16j + 3)), (15, .int x15_375), (14, .int x14_372), (0, .ref a0), (2, .ref ym0), (3, .ref yq0), (4, .ref yh0), (5, .ref yb0), (6, .ref ye0), (7, .int (z7_297 + 1)), (8, .long z8_298), (10, .long z10_299), (12, .int z12_300), (13, .int z13j)]) hx hb dL_same_144 hl (k := 13) rfl rfl (by decide) rfl (fun ls hl => ?_)
                    refine lv_goto (tgt := 71) hx hb dL_same_147 (by decide) ?_
                    exact ih z13j x14_372 x15_375 (z16j + 3) _ _ _ _ hf hP hD hS (lv_sub hl [3, 4, 5, 6, 7, 8, 9, 10, 11, 12, 13, 2, 1, 0] rfl) hr_71 kx_71
                  · have hf := x_t c_374 hf
                    refine lv_aload hx hb dL_same_130 (lv_at hl 5 rfl) ?_
                    refine lv_iload hx hb dL_same_132 (lv_at hl 13 rfl) ?_
                    refine lv_iconst (v := 1) hx hb dL_same_134 (by decide) ?_
                    refine lv_iadd hx hb dL_same_135 ?_
                    obtain ⟨hi_376, hf⟩ := ckI_el hf
                    refine va_iald hx hb hK hP 4 1 rfl rfl hi_376 dL_same_136 ?_
                    refine lv_goto (tgt := 141) hx hb dL_same_137 (by decide) ?_
                    refine lv_iadd hx hb dL_same_141 ?_
                    obtain ⟨x15_377, ex15_377, hf⟩ := lt_el hf
                    refine x_topi ex15_377 ?_
                    refine lv_istore (lv' := [(15, .int x15_377), (14, .int x14_372), (0, .ref a0), (2, .ref ym0), (3, .ref yq0), (4, .ref yh0), (5, .ref yb0), (6, .ref ye0), (7, .int (z7_297 + 1)), (8, .long z8_298), (10, .long z10_299), (12, .int z12_300), (13, .int z13j), (16, .int z16j)]) hx hb dL_same_142 hl (by decide) rfl (fun ls hl => ?_)
                    refine lv_iinc (v := (z16j + 3)) (lv' := [(16, .int (z16j + 3)), (15, .int x15_377), (14, .int x14_372), (0, .ref a0), (2, .ref ym0), (3, .ref yq0), (4, .ref yh0), (5, .ref yb0), (6, .ref ye0), (7, .int (z7_297 + 1)), (8, .long z8_298), (10, .long z10_299), (12, .int z12_300), (13, .int z13j)]) hx hb dL_same_144 hl (k := 13) rfl rfl (by decide) rfl (fun ls hl => ?_)
                    refine lv_goto (tgt := 71) hx hb dL_same_147 (by decide) ?_
                    exact ih z13j x14_372 x15_377 (z16j + 3) _ _ _ _ hf hP hD hS (lv_sub hl [3, 4, 5, 6, 7, 8, 9, 10, 11, 12, 13, 2, 1, 0] rfl) hr_71 kx_71
                have hfL_same_J95 : ∀ (z14j : Int32) (z15j : Int32) (z16j : Int32) (s0j : Int32) (s1j : Int32) (H : Heap) (locs : List Loc) (ls : Array Slot), fL_same_J95 hh bb (z7_297 + 1) z8_298 z10_299 z12_300 z14j z15j z16j s0j s1j (fL_same_L71 hh bb (z7_297 + 1) z8_298 z10_299 z12_300 n) = some o_71 → va_P D vwCl (wAE cy ye0 ee ++ (wAM cy ym0 mm ++ (wAQ cy yq0 qq ++ (wAH cy yh0 hh ++ (wAB cy yb0 bb ++ wX7 cy a0 t0 t1 k0 k1 k2 s0 s1 s2 s3 s4 s5 s6 s7 s8 s9 s10 s11 hd Xle Xch Xpo Xltr Xfi Xse Xth Ksz_311 Kcl_312 Kke_313 Asz Anu Aba Amo Aco Hsz Hla Hce Bsz Bla Bce Tma Tlc Ttc day lim low hig thr off cre rcp pay sv nx SL))))) H → va_D A (wAE cy ye0 ee ++ (wAM cy ym0 mm ++ (wAQ cy yq0 qq ++ (wAH cy yh0 hh ++ (wAB cy yb0 bb ++ wX7 cy a0 t0 t1 k0 k1 k2 s0 s1 s2 s3 s4 s5 s6 s7 s8 s9 s10 s11 hd Xle Xch Xpo Xltr Xfi Xse Xth Ksz_311 Kcl_312 Kke_313 Asz Anu Aba Amo Aco Hsz Hla Hce Bsz Bla Bce Tma Tlc Ttc day lim low hig thr off cre rcp pay sv nx SL))))) → va_S A s.heap H locs → lv_has ls 20 [(0, .ref a0), (2, .ref ym0), (3, .ref yq0), (4, .ref yh0), (5, .ref yb0), (6, .ref ye0), (7, .int (z7_297 + 1)), (8, .long z8_298), (10, .long z10_299), (12, .int z12_300), (14, .int z14j), (15, .int z15j), (16, .int z16j)] → W p l e rmL_same s m ([.ref a0, .int p2, .ref ym0, .ref yq0, .ref yh0, .ref yb0, .ref ye0] : List Value).toArray below meth c H locs 0 0 (MQ below (xQi D cy (wAE cy ye0 ee ++ (wAM cy ym0 mm ++ (wAQ cy yq0 qq ++ (wAH cy yh0 hh ++ (wAB cy yb0 bb ++ wX7 cy a0 t0 t1 k0 k1 k2 s0 s1 s2 s3 s4 s5 s6 s7 s8 s9 s10 s11 hd Xle Xch Xpo Xltr Xfi Xse Xth Ksz' Kcl' Kke' Asz Anu Aba Amo Aco Hsz Hla Hce Bsz Bla Bce Tma Tlc Ttc day lim low hig thr off cre rcp pay sv nx SL))))) r A) ([.ref a0, .int p2, .ref ym0, .ref yq0, .ref yh0, .ref yb0, .ref ye0] : List Value).toArray s 0 0 A) (F0 m 95 ls [.int s0j, .int s1j]) := by
                  intro z14j z15j z16j s0j s1j H locs ls hf hP hD hS hl
                  unfold fL_same_J95 at hf
                  refine lv_iadd hx hb dL_same_95 ?_
                  obtain ⟨x13_369, ex13_369, hf⟩ := lt_el hf
                  refine x_topi ex13_369 ?_
                  refine lv_istore (lv' := [(13, .int x13_369), (0, .ref a0), (2, .ref ym0), (3, .ref yq0), (4, .ref yh0), (5, .ref yb0), (6, .ref ye0), (7, .int (z7_297 + 1)), (8, .long z8_298), (10, .long z10_299), (12, .int z12_300), (14, .int z14j), (15, .int z15j), (16, .int z16j)]) hx hb dL_same_96 hl (by decide) rfl (fun ls hl => ?_)
                  refine lv_iload hx hb dL_same_98 (lv_at hl 11 rfl) ?_
                  refine lv_aload hx hb dL_same_100 (lv_at hl 5 rfl) ?_
                  refine lv_iload hx hb dL_same_102 (lv_at hl 13 rfl) ?_
                  obtain ⟨hi_370, hf⟩ := ckI_el hf
                  refine va_iald hx hb hK hP 4 1 rfl rfl hi_370 dL_same_104 ?_
                  refine lv_iload hx hb dL_same_105 (lv_at hl 10 rfl) ?_
                  refine lv_icmp_ne (tgt := 114) hx hb dL_same_107 (by decide) (fun c_371 => ?_) (fun c_371 => ?_)
                  · have hf := x_f c_371 hf
                    refine lv_iconst (v := 0) hx hb dL_same_114 (by decide) ?_
                    exact hfL_same_J115 x13_369 z15j z16j 0 z14j _ _ _ hf hP hD hS (lv_sub hl [1, 2, 3, 4, 5, 6, 7, 8, 9, 10, 0, 12, 13] rfl)
                  · have hf := x_t c_371 hf
                    refine lv_iconst (v := 1) hx hb dL_same_110 (by decide) ?_
                    refine lv_goto (tgt := 115) hx hb dL_same_111 (by decide) ?_
                    exact hfL_same_J115 x13_369 z15j z16j 1 z14j _ _ _ hf hP hD hS (lv_sub hl [1, 2, 3, 4, 5, 6, 7, 8, 9, 10, 0, 12, 13] rfl)
                refine lv_iload hx hb dL_same_71 (lv_at hl 13 rfl) ?_
                refine lv_bipush (v := 60) hx hb dL_same_73 (by decide) ?_
                refine lv_icmp_ge (tgt := 150) hx hb dL_same_75 (by decide) (fun c_366 => ?_) (fun c_366 => ?_)
                · have hf := x_t c_366 hf
                  exact kx_71 z13_359 z14_360 z15_361 (Option.some.inj hf).symm _ _ _ hP hD hS (lv_sub hl [0, 1, 2, 3, 4, 5, 6, 7, 8, 9, 10, 11, 12] rfl)
                · have hf := x_f c_366 hf
                  refine lv_iload hx hb dL_same_78 (lv_at hl 10 rfl) ?_
                  refine lv_aload hx hb dL_same_80 (lv_at hl 3 rfl) ?_
                  refine lv_iload hx hb dL_same_82 (lv_at hl 13 rfl) ?_
                  obtain ⟨hi_367, hf⟩ := ckI_el hf
                  refine va_iald hx hb hK hP 3 1 rfl rfl hi_367 dL_same_84 ?_
                  refine lv_iload hx hb dL_same_85 (lv_at hl 9 rfl) ?_
                  refine lv_icmp_ne (tgt := 94) hx hb dL_same_87 (by decide) (fun c_368 => ?_) (fun c_368 => ?_)
                  · have hf := x_f c_368 hf
                    refine lv_iconst (v := 0) hx hb dL_same_94 (by decide) ?_
                    exact hfL_same_J95 z14_360 z15_361 z16_362 0 z13_359 _ _ _ hf hP hD hS (lv_sub hl [0, 1, 2, 3, 4, 5, 6, 7, 8, 9, 11, 12, 13] rfl)
                  · have hf := x_t c_368 hf
                    refine lv_iconst (v := 1) hx hb dL_same_90 (by decide) ?_
                    refine lv_goto (tgt := 95) hx hb dL_same_91 (by decide) ?_
                    exact hfL_same_J95 z14_360 z15_361 z16_362 1 z13_359 _ _ _ hf hP hD hS (lv_sub hl [0, 1, 2, 3, 4, 5, 6, 7, 8, 9, 11, 12, 13] rfl)
            obtain ⟨x13_316, x14_317, x15_318, h1_71, hf⟩ := bd3_el hf
            refine hL_71 2147483648 0 0 0 0 _ _ _ _ h1_71 hP hD hS (lv_sub hl [5, 6, 7, 8, 9, 10, 4, 11, 12, 13, 3, 2, 1, 0] rfl) trivial (fun x13_3169 x14_3179 x15_3189 ho H locs ls hP hD hS hl => ?_)
            cases ho
            refine lv_aload_n hx hb dL_same_150 rfl (lv_at hl 1 rfl) ?_
            refine lv_bipush (v := 10) hx hb dL_same_151 (by decide) ?_
            refine lv_iload hx hb dL_same_153 (lv_at hl 9 rfl) ?_
            refine lv_iadd hx hb dL_same_155 ?_
            obtain ⟨hi_319, hf⟩ := ckI_el hf
            refine va_lald hx hb hK hP 1 2 rfl rfl hi_319 dL_same_156 ?_
            refine lv_ldc2 hx hb hown wd0 dL_same_157 ?_
            refine lv_ldiv hx hb dL_same_160 (by decide) ?_
            obtain ⟨x16_320, ex16_320, hf⟩ := lt_el hf
            refine x_topl ex16_320 ?_
            refine lv_lstore (lv' := [(16, .long x16_320), (0, .ref a0), (2, .ref ym0), (3, .ref yq0), (4, .ref yh0), (5, .ref yb0), (6, .ref ye0), (7, .int (z7_297 + 1)), (8, .long z8_298), (10, .long z10_299), (12, .int z12_300), (13, .int x13_316), (14, .int x14_317), (15, .int x15_318)]) hx hb dL_same_161 hl (by decide) rfl (fun ls hl => ?_)
            refine lv_aload_n hx hb dL_same_163 rfl (lv_at hl 1 rfl) ?_
            refine lv_iload hx hb dL_same_164 (lv_at hl 10 rfl) ?_
            refine lv_iconst (v := 0) hx hb dL_same_166 (by decide) ?_
            obtain ⟨r_321, h_322, hf⟩ := bd1_el hf
            refine x_callVi (As := [.int z12_300, .int 0]) (rest := []) ⟨hx, hb, hml, hown, hts⟩ (mX7_of l D cy a0 t0 t1 k0 k1 k2 s0 s1 s2 s3 s4 s5 s6 s7 s8 s9 s10 s11 hd Xle Xch Xpo Xltr Xfi Xse Xth Ksz_311 Kcl_312 Kke_313 Asz Anu Aba Amo Aco Hsz Hla Hce Bsz Bla Bce Tma Tlc Ttc day lim low hig thr off cre rcp pay sv nx SL z12_300 0 r_321 h_322) (cwV 2 hts (gcV_X7_of hbg wm_19_17) rfl rfl rfl kdX7_of ⟨Nat.le_of_ble_eq_true rfl, Nat.le_of_ble_eq_true rfl⟩) (w1 := wAE cy ye0 ee ++ (wAM cy ym0 mm ++ (wAQ cy yq0 qq ++ (wAH cy yh0 hh ++ (wAB cy yb0 bb))))) (w2 := []) (w' := wAE cy ye0 ee ++ (wAM cy ym0 mm ++ (wAQ cy yq0 qq ++ (wAH cy yh0 hh ++ (wAB cy yb0 bb ++ wX7 cy a0 t0 t1 k0 k1 k2 s0 s1 s2 s3 s4 s5 s6 s7 s8 s9 s10 s11 hd Xle Xch Xpo Xltr Xfi Xse Xth Ksz_311 Kcl_312 Kke_313 Asz Anu Aba Amo Aco Hsz Hla Hce Bsz Bla Bce Tma Tlc Ttc day lim low hig thr off cre rcp pay sv nx SL))))) (by simp only [List.append_assoc, List.append_nil, List.nil_append]) (by simp only [List.append_assoc, List.append_nil, List.nil_append]) hP hK hD hN hS hA (q0 := 0) rfl rfl rfl rfl hl rfl (Nat.le_of_ble_eq_true rfl) dL_same_167 ⟨Nat.zero_le _, Nat.zero_le _⟩ (fun H locs hP hD hS => ?_)
            refine lv_i2l (v := r_321.toInt64) hx hb dL_same_170 rfl ?_
            refine lv_aload_n hx hb dL_same_171 rfl (lv_at hl 2 rfl) ?_
            refine lv_iload hx hb dL_same_172 (lv_at hl 10 rfl) ?_
            obtain ⟨hi_323, hf⟩ := ckI_el hf
            refine va_lald hx hb hK hP 1 2 rfl rfl hi_323 dL_same_174 ?_
            refine W.lcmp hx hb dL_same_175 ?_
            refine lv_if_ne (tgt := 302) hx hb dL_same_176 (by decide) (fun c_324 => ?_) (fun c_324 => ?_)
            · have c_324 := fun q => c_324 ((lg_cmp_eq _ _).mpr q)
              have hf := x_f c_324 hf
              refine lv_iconst (v := 0) hx hb dL_same_302 (by decide) ?_
              have hf := Option.some.inj hf
              have hf := (hr_12 _ hf.symm)
              cases hf
              exact x_zret hx hb hr hlocks hK hP hD hS rfl dL_same_303
            · have c_324 := (lg_cmp_eq _ _).mp c_324
              have hf := x_t c_324 hf
              refine lv_aload_n hx hb dL_same_179 rfl (lv_at hl 1 rfl) ?_
              refine lv_iload hx hb dL_same_180 (lv_at hl 10 rfl) ?_
              refine lv_iconst (v := 1) hx hb dL_same_182 (by decide) ?_
              obtain ⟨r_325, h_326, hf⟩ := bd1_el hf
              refine x_callVi (As := [.int z12_300, .int 1]) (rest := []) ⟨hx, hb, hml, hown, hts⟩ (mX7_of l D cy a0 t0 t1 k0 k1 k2 s0 s1 s2 s3 s4 s5 s6 s7 s8 s9 s10 s11 hd Xle Xch Xpo Xltr Xfi Xse Xth Ksz_311 Kcl_312 Kke_313 Asz Anu Aba Amo Aco Hsz Hla Hce Bsz Bla Bce Tma Tlc Ttc day lim low hig thr off cre rcp pay sv nx SL z12_300 1 r_325 h_326) (cwV 2 hts (gcV_X7_of hbg wm_19_17) rfl rfl rfl kdX7_of ⟨Nat.le_of_ble_eq_true rfl, Nat.le_of_ble_eq_true rfl⟩) (w1 := wAE cy ye0 ee ++ (wAM cy ym0 mm ++ (wAQ cy yq0 qq ++ (wAH cy yh0 hh ++ (wAB cy yb0 bb))))) (w2 := []) (w' := wAE cy ye0 ee ++ (wAM cy ym0 mm ++ (wAQ cy yq0 qq ++ (wAH cy yh0 hh ++ (wAB cy yb0 bb ++ wX7 cy a0 t0 t1 k0 k1 k2 s0 s1 s2 s3 s4 s5 s6 s7 s8 s9 s10 s11 hd Xle Xch Xpo Xltr Xfi Xse Xth Ksz_311 Kcl_312 Kke_313 Asz Anu Aba Amo Aco Hsz Hla Hce Bsz Bla Bce Tma Tlc Ttc day lim low hig thr off cre rcp pay sv nx SL))))) (by simp only [List.append_assoc, List.append_nil, List.nil_append]) (by simp only [List.append_assoc, List.append_nil, List.nil_append]) hP hK hD hN hS hA (q0 := 0) rfl rfl rfl rfl hl rfl (Nat.le_of_ble_eq_true rfl) dL_same_183 ⟨Nat.zero_le _, Nat.zero_le _⟩ (fun H locs hP hD hS => ?_)
              refine lv_iload hx hb dL_same_186 (lv_at hl 10 rfl) ?_
              refine lv_aload_n hx hb dL_same_188 rfl (lv_at hl 3 rfl) ?_
              refine lv_iconst (v := 0) hx hb dL_same_189 (by decide) ?_
              obtain ⟨hi_327, hf⟩ := ckI_el hf
              refine va_iald hx hb hK hP 2 1 rfl rfl hi_327 dL_same_190 ?_
              refine lv_aload hx hb dL_same_191 (lv_at hl 4 rfl) ?_
              obtain ⟨r_328, h_329, hf⟩ := bd1_el hf
              refine x_callSi (As := [.int z12_300, .int (qq (0 : Int32).toNatClampNeg), .ref yh0]) (rest := [.int r_325]) ⟨hx, hb, hml, hown, hts⟩ (mL_held l D cy yh0 hh z12_300 (qq (0 : Int32).toNatClampNeg) r_328 h_329) (va_cwS 3 hts (gcS_L_held hbg wm_10_10) rfl rfl rfl kdL_held ⟨Nat.le_of_ble_eq_true rfl, Nat.le_of_ble_eq_true rfl⟩) (w1 := wAE cy ye0 ee ++ (wAM cy ym0 mm ++ (wAQ cy yq0 qq))) (w2 := wAB cy yb0 bb ++ (wX7 cy a0 t0 t1 k0 k1 k2 s0 s1 s2 s3 s4 s5 s6 s7 s8 s9 s10 s11 hd Xle Xch Xpo Xltr Xfi Xse Xth Ksz_311 Kcl_312 Kke_313 Asz Anu Aba Amo Aco Hsz Hla Hce Bsz Bla Bce Tma Tlc Ttc day lim low hig thr off cre rcp pay sv nx SL)) (w' := wAE cy ye0 ee ++ (wAM cy ym0 mm ++ (wAQ cy yq0 qq ++ (wAH cy yh0 hh ++ (wAB cy yb0 bb ++ wX7 cy a0 t0 t1 k0 k1 k2 s0 s1 s2 s3 s4 s5 s6 s7 s8 s9 s10 s11 hd Xle Xch Xpo Xltr Xfi Xse Xth Ksz_311 Kcl_312 Kke_313 Asz Anu Aba Amo Aco Hsz Hla Hce Bsz Bla Bce Tma Tlc Ttc day lim low hig thr off cre rcp pay sv nx SL))))) (by simp only [List.append_assoc, List.append_nil, List.nil_append]) (by simp only [List.append_assoc, List.append_nil, List.nil_append]) hP hK hD hN hS hA rfl hl rfl (Nat.le_of_ble_eq_true rfl) dL_same_193 ⟨Nat.zero_le _, Nat.zero_le _⟩ (fun H locs hP hD hS => ?_)
              refine lv_icmp_ne (tgt := 302) hx hb dL_same_196 (by decide) (fun c_330 => ?_) (fun c_330 => ?_)
              · have hf := x_f c_330 hf
                refine lv_iconst (v := 0) hx hb dL_same_302 (by decide) ?_
                have hf := Option.some.inj hf
                have hf := (hr_12 _ hf.symm)
                cases hf
                exact x_zret hx hb hr hlocks hK hP hD hS rfl dL_same_303
              · have hf := x_t c_330 hf
                refine lv_aload_n hx hb dL_same_199 rfl (lv_at hl 1 rfl) ?_
                refine lv_iload hx hb dL_same_200 (lv_at hl 10 rfl) ?_
                refine lv_iconst (v := 2) hx hb dL_same_202 (by decide) ?_
                obtain ⟨r_331, h_332, hf⟩ := bd1_el hf
                refine x_callVi (As := [.int z12_300, .int 2]) (rest := []) ⟨hx, hb, hml, hown, hts⟩ (mX7_of l D cy a0 t0 t1 k0 k1 k2 s0 s1 s2 s3 s4 s5 s6 s7 s8 s9 s10 s11 hd Xle Xch Xpo Xltr Xfi Xse Xth Ksz_311 Kcl_312 Kke_313 Asz Anu Aba Amo Aco Hsz Hla Hce Bsz Bla Bce Tma Tlc Ttc day lim low hig thr off cre rcp pay sv nx SL z12_300 2 r_331 h_332) (cwV 2 hts (gcV_X7_of hbg wm_19_17) rfl rfl rfl kdX7_of ⟨Nat.le_of_ble_eq_true rfl, Nat.le_of_ble_eq_true rfl⟩) (w1 := wAE cy ye0 ee ++ (wAM cy ym0 mm ++ (wAQ cy yq0 qq ++ (wAH cy yh0 hh ++ (wAB cy yb0 bb))))) (w2 := []) (w' := wAE cy ye0 ee ++ (wAM cy ym0 mm ++ (wAQ cy yq0 qq ++ (wAH cy yh0 hh ++ (wAB cy yb0 bb ++ wX7 cy a0 t0 t1 k0 k1 k2 s0 s1 s2 s3 s4 s5 s6 s7 s8 s9 s10 s11 hd Xle Xch Xpo Xltr Xfi Xse Xth Ksz_311 Kcl_312 Kke_313 Asz Anu Aba Amo Aco Hsz Hla Hce Bsz Bla Bce Tma Tlc Ttc day lim low hig thr off cre rcp pay sv nx SL))))) (by simp only [List.append_assoc, List.append_nil, List.nil_append]) (by simp only [List.append_assoc, List.append_nil, List.nil_append]) hP hK hD hN hS hA (q0 := 0) rfl rfl rfl rfl hl rfl (Nat.le_of_ble_eq_true rfl) dL_same_203 ⟨Nat.zero_le _, Nat.zero_le _⟩ (fun H locs hP hD hS => ?_)
                refine lv_iload hx hb dL_same_206 (lv_at hl 10 rfl) ?_
                refine lv_aload_n hx hb dL_same_208 rfl (lv_at hl 2 rfl) ?_
                refine lv_aload_n hx hb dL_same_209 rfl (lv_at hl 3 rfl) ?_
                refine lv_aload hx hb dL_same_210 (lv_at hl 4 rfl) ?_
                obtain ⟨r_333, h_334, hf⟩ := bd1_el hf
                refine x_callSi (As := [.int z12_300, .ref ym0, .ref yq0, .ref yh0]) (rest := [.int r_331]) ⟨hx, hb, hml, hown, hts⟩ (mL_free l D cy ym0 yq0 yh0 mm qq hh z12_300 r_333 h_334) (va_cwS 4 hts (gcS_L_free hbg wm_10_7) rfl rfl rfl kdL_free ⟨Nat.le_of_ble_eq_true rfl, Nat.le_of_ble_eq_true rfl⟩) (w1 := wAE cy ye0 ee) (w2 := wAB cy yb0 bb ++ (wX7 cy a0 t0 t1 k0 k1 k2 s0 s1 s2 s3 s4 s5 s6 s7 s8 s9 s10 s11 hd Xle Xch Xpo Xltr Xfi Xse Xth Ksz_311 Kcl_312 Kke_313 Asz Anu Aba Amo Aco Hsz Hla Hce Bsz Bla Bce Tma Tlc Ttc day lim low hig thr off cre rcp pay sv nx SL)) (w' := wAE cy ye0 ee ++ (wAM cy ym0 mm ++ (wAQ cy yq0 qq ++ (wAH cy yh0 hh ++ (wAB cy yb0 bb ++ wX7 cy a0 t0 t1 k0 k1 k2 s0 s1 s2 s3 s4 s5 s6 s7 s8 s9 s10 s11 hd Xle Xch Xpo Xltr Xfi Xse Xth Ksz_311 Kcl_312 Kke_313 Asz Anu Aba Amo Aco Hsz Hla Hce Bsz Bla Bce Tma Tlc Ttc day lim low hig thr off cre rcp pay sv nx SL))))) (by simp only [List.append_assoc, List.append_nil, List.nil_append]) (by simp only [List.append_assoc, List.append_nil, List.nil_append]) hP hK hD hN hS hA rfl hl rfl (Nat.le_of_ble_eq_true rfl) dL_same_212 ⟨Nat.zero_le _, Nat.zero_le _⟩ (fun H locs hP hD hS => ?_)
                refine lv_icmp_ne (tgt := 302) hx hb dL_same_215 (by decide) (fun c_335 => ?_) (fun c_335 => ?_)
                · have hf := x_f c_335 hf
                  refine lv_iconst (v := 0) hx hb dL_same_302 (by decide) ?_
                  have hf := Option.some.inj hf
                  have hf := (hr_12 _ hf.symm)
                  cases hf
                  exact x_zret hx hb hr hlocks hK hP hD hS rfl dL_same_303
                · have hf := x_t c_335 hf
                  refine lv_aload_n hx hb dL_same_218 rfl (lv_at hl 1 rfl) ?_
                  refine lv_iload hx hb dL_same_219 (lv_at hl 10 rfl) ?_
                  refine lv_iconst (v := 3) hx hb dL_same_221 (by decide) ?_
                  obtain ⟨r_336, h_337, hf⟩ := bd1_el hf
                  refine x_callVi (As := [.int z12_300, .int 3]) (rest := []) ⟨hx, hb, hml, hown, hts⟩ (mX7_of l D cy a0 t0 t1 k0 k1 k2 s0 s1 s2 s3 s4 s5 s6 s7 s8 s9 s10 s11 hd Xle Xch Xpo Xltr Xfi Xse Xth Ksz_311 Kcl_312 Kke_313 Asz Anu Aba Amo Aco Hsz Hla Hce Bsz Bla Bce Tma Tlc Ttc day lim low hig thr off cre rcp pay sv nx SL z12_300 3 r_336 h_337) (cwV 2 hts (gcV_X7_of hbg wm_19_17) rfl rfl rfl kdX7_of ⟨Nat.le_of_ble_eq_true rfl, Nat.le_of_ble_eq_true rfl⟩) (w1 := wAE cy ye0 ee ++ (wAM cy ym0 mm ++ (wAQ cy yq0 qq ++ (wAH cy yh0 hh ++ (wAB cy yb0 bb))))) (w2 := []) (w' := wAE cy ye0 ee ++ (wAM cy ym0 mm ++ (wAQ cy yq0 qq ++ (wAH cy yh0 hh ++ (wAB cy yb0 bb ++ wX7 cy a0 t0 t1 k0 k1 k2 s0 s1 s2 s3 s4 s5 s6 s7 s8 s9 s10 s11 hd Xle Xch Xpo Xltr Xfi Xse Xth Ksz_311 Kcl_312 Kke_313 Asz Anu Aba Amo Aco Hsz Hla Hce Bsz Bla Bce Tma Tlc Ttc day lim low hig thr off cre rcp pay sv nx SL))))) (by simp only [List.append_assoc, List.append_nil, List.nil_append]) (by simp only [List.append_assoc, List.append_nil, List.nil_append]) hP hK hD hN hS hA (q0 := 0) rfl rfl rfl rfl hl rfl (Nat.le_of_ble_eq_true rfl) dL_same_222 ⟨Nat.zero_le _, Nat.zero_le _⟩ (fun H locs hP hD hS => ?_)
                  refine lv_i2l (v := r_336.toInt64) hx hb dL_same_225 rfl ?_
                  refine lv_lload hx hb dL_same_226 (lv_at hl 0 rfl) ?_
                  refine lv_ldc2 hx hb hown wd1 dL_same_228 ?_
                  refine W.lcmp hx hb dL_same_231 ?_
                  refine lv_if_le (tgt := 241) hx hb dL_same_232 (by decide) (fun c_338 => ?_) (fun c_338 => ?_)
                  · have c_338 := (lg_cmp_le _ _).mp c_338
                    have hf := x_t c_338 hf
                    refine lv_lload hx hb dL_same_241 (lv_at hl 0 rfl) ?_
                    exact hfL_same_J243 Ksz_311 Kcl_312 Kke_313 (z7_297 + 1) z8_298 z10_299 z12_300 x13_316 x14_317 x15_318 x16_320 r_336.toInt64 _ _ _ hf hP hD hS (lv_sub hl [1, 2, 3, 4, 5, 6, 7, 8, 9, 10, 11, 12, 13] rfl)
                  · have c_338 := fun q => c_338 ((lg_cmp_le _ _).mpr q)
                    have hf := x_f c_338 hf
                    refine lv_ldc2 hx hb hown wd1 dL_same_235 ?_
                    refine lv_goto (tgt := 243) hx hb dL_same_238 (by decide) ?_
                    exact hfL_same_J243 Ksz_311 Kcl_312 Kke_313 (z7_297 + 1) z8_298 z10_299 z12_300 x13_316 x14_317 x15_318 1000000000 r_336.toInt64 _ _ _ hf hP hD hS (lv_sub hl [1, 2, 3, 4, 5, 6, 7, 8, 9, 10, 11, 12, 13] rfl)
          · have hf := x_f c_315 hf
            refine lv_iconst (v := 0) hx hb dL_same_54 (by decide) ?_
            have hf := Option.some.inj hf
            have hf := (hr_12 _ hf.symm)
            cases hf
            exact x_zret hx hb hr hlocks hK hP hD hS rfl dL_same_55
        · have hf := x_f c_309 hf
          refine lv_aload_n hx hb dL_same_29 rfl (lv_at hl 0 rfl) ?_
          refine lv_iload hx hb dL_same_30 (lv_at hl 9 rfl) ?_
          refine lv_iconst (v := 0) hx hb dL_same_32 (by decide) ?_
          obtain ⟨r_378, h_379, hf⟩ := bd1_el hf
          refine x_callVi (As := [.int z12_300, .int 0]) (rest := []) ⟨hx, hb, hml, hown, hts⟩ (mX7_of l D cy a0 t0 t1 k0 k1 k2 s0 s1 s2 s3 s4 s5 s6 s7 s8 s9 s10 s11 hd Xle Xch Xpo Xltr Xfi Xse Xth Ksz_294 Kcl_295 Kke_296 Asz Anu Aba Amo Aco Hsz Hla Hce Bsz Bla Bce Tma Tlc Ttc day lim low hig thr off cre rcp pay sv nx SL z12_300 0 r_378 h_379) (cwV 2 hts (gcV_X7_of hbg wm_19_17) rfl rfl rfl kdX7_of ⟨Nat.le_of_ble_eq_true rfl, Nat.le_of_ble_eq_true rfl⟩) (w1 := wAE cy ye0 ee ++ (wAM cy ym0 mm ++ (wAQ cy yq0 qq ++ (wAH cy yh0 hh ++ (wAB cy yb0 bb))))) (w2 := []) (w' := wAE cy ye0 ee ++ (wAM cy ym0 mm ++ (wAQ cy yq0 qq ++ (wAH cy yh0 hh ++ (wAB cy yb0 bb ++ wX7 cy a0 t0 t1 k0 k1 k2 s0 s1 s2 s3 s4 s5 s6 s7 s8 s9 s10 s11 hd Xle Xch Xpo Xltr Xfi Xse Xth Ksz_294 Kcl_295 Kke_296 Asz Anu Aba Amo Aco Hsz Hla Hce Bsz Bla Bce Tma Tlc Ttc day lim low hig thr off cre rcp pay sv nx SL))))) (by simp only [List.append_assoc, List.append_nil, List.nil_append]) (by simp only [List.append_assoc, List.append_nil, List.nil_append]) hP hK hD hN hS hA (q0 := 0) rfl rfl rfl rfl hl rfl (Nat.le_of_ble_eq_true rfl) dL_same_33 ⟨Nat.zero_le _, Nat.zero_le _⟩ (fun H locs hP hD hS => ?_)
          refine lv_iconst (v := (-1)) hx hb dL_same_36 (by decide) ?_
          refine lv_icmp_eq (tgt := 329) hx hb dL_same_37 (by decide) (fun c_380 => ?_) (fun c_380 => ?_)
          · have hf := x_t c_380 hf
            refine lv_iinc (v := (z12_300 + 1)) (lv' := [(12, .int (z12_300 + 1)), (0, .ref a0), (2, .ref ym0), (3, .ref yq0), (4, .ref yh0), (5, .ref yb0), (6, .ref ye0), (7, .int z7_297), (8, .long z8_298), (10, .long z10_299)]) hx hb dL_same_329 hl (k := 9) rfl rfl (by decide) rfl (fun ls hl => ?_)
            refine lv_goto (tgt := 12) hx hb dL_same_332 (by decide) ?_
            exact ih Ksz_294 Kcl_295 Kke_296 z7_297 z8_298 z10_299 (z12_300 + 1) _ _ _ _ hf hP hD hS (lv_sub hl [1, 2, 3, 4, 5, 6, 7, 8, 9, 0] rfl) hr_12 kx_12
          · have hf := x_f c_380 hf
            refine lv_iconst (v := 0) hx hb dL_same_40 (by decide) ?_
            have hf := Option.some.inj hf
            have hf := (hr_12 _ hf.symm)
            cases hf
            exact x_zret hx hb hr hlocks hK hP hD hS rfl dL_same_41
  obtain ⟨o_12, h1_12, hr_12, hf⟩ := bs6_el hf
  refine hL_12 2147483648 Ksz Kcl Kke 0 0 0 1 o_12 _ _ _ h1_12 hP hD hS (lv_sub hl [4, 6, 7, 8, 9, 10, 3, 2, 1, 0] rfl) hr_12 (fun Ksz_68 Kcl_69 Kke_70 x7_71 x8_72 x10_73 ho H locs ls hP hD hS hl => ?_)
  have hf := hf Ksz_68 Kcl_69 Kke_70 x7_71 x8_72 x10_73 ho
  refine lv_iconst (v := 1) hx hb dL_same_335 (by decide) ?_
  refine lv_istore (lv' := [(12, .int 1), (0, .ref a0), (2, .ref ym0), (3, .ref yq0), (4, .ref yh0), (5, .ref yb0), (6, .ref ye0), (7, .int x7_71), (8, .long x8_72), (10, .long x10_73)]) hx hb dL_same_336 hl (by decide) rfl (fun ls hl => ?_)
  have hL_338 : ∀ (n : Nat) (Ksz_246 : Int32) (Kcl_247 : Nat → Int32) (Kke_248 : Nat → Int32) (z12_249 : Int32) (o : (Int32 × Int32 × (Nat → Int32) × (Nat → Int32)) ⊕ (Int32 × (Nat → Int32) × (Nat → Int32))) (H : Heap) (locs : List Loc) (ls : Array Slot), fL_same_L338 mm qq hh Asz Anu Aba Amo Hsz Hce x7_71 x8_72 x10_73 n Ksz_246 Kcl_247 Kke_248 z12_249 = some o → va_P D vwCl (wAE cy ye0 ee ++ (wAM cy ym0 mm ++ (wAQ cy yq0 qq ++ (wAH cy yh0 hh ++ (wAB cy yb0 bb ++ wX7 cy a0 t0 t1 k0 k1 k2 s0 s1 s2 s3 s4 s5 s6 s7 s8 s9 s10 s11 hd Xle Xch Xpo Xltr Xfi Xse Xth Ksz_246 Kcl_247 Kke_248 Asz Anu Aba Amo Aco Hsz Hla Hce Bsz Bla Bce Tma Tlc Ttc day lim low hig thr off cre rcp pay sv nx SL))))) H → va_D A (wAE cy ye0 ee ++ (wAM cy ym0 mm ++ (wAQ cy yq0 qq ++ (wAH cy yh0 hh ++ (wAB cy yb0 bb ++ wX7 cy a0 t0 t1 k0 k1 k2 s0 s1 s2 s3 s4 s5 s6 s7 s8 s9 s10 s11 hd Xle Xch Xpo Xltr Xfi Xse Xth Ksz_246 Kcl_247 Kke_248 Asz Anu Aba Amo Aco Hsz Hla Hce Bsz Bla Bce Tma Tlc Ttc day lim low hig thr off cre rcp pay sv nx SL))))) → va_S A s.heap H locs → lv_has ls 20 [(0, .ref a0), (2, .ref ym0), (3, .ref yq0), (4, .ref yh0), (5, .ref yb0), (6, .ref ye0), (7, .int x7_71), (8, .long x8_72), (10, .long x10_73), (12, .int z12_249)] → (∀ r', o = .inl r' → r' = (r, Ksz', Kcl', Kke')) → ((∀ (Ksz_250 : Int32) (Kcl_251 : Nat → Int32) (Kke_252 : Nat → Int32) , o = (.inr (Ksz_250, Kcl_251, Kke_252)) → ∀ (H : Heap) (locs : List Loc) (ls : Array Slot), va_P D vwCl (wAE cy ye0 ee ++ (wAM cy ym0 mm ++ (wAQ cy yq0 qq ++ (wAH cy yh0 hh ++ (wAB cy yb0 bb ++ wX7 cy a0 t0 t1 k0 k1 k2 s0 s1 s2 s3 s4 s5 s6 s7 s8 s9 s10 s11 hd Xle Xch Xpo Xltr Xfi Xse Xth Ksz_250 Kcl_251 Kke_252 Asz Anu Aba Amo Aco Hsz Hla Hce Bsz Bla Bce Tma Tlc Ttc day lim low hig thr off cre rcp pay sv nx SL))))) H → va_D A (wAE cy ye0 ee ++ (wAM cy ym0 mm ++ (wAQ cy yq0 qq ++ (wAH cy yh0 hh ++ (wAB cy yb0 bb ++ wX7 cy a0 t0 t1 k0 k1 k2 s0 s1 s2 s3 s4 s5 s6 s7 s8 s9 s10 s11 hd Xle Xch Xpo Xltr Xfi Xse Xth Ksz_250 Kcl_251 Kke_252 Asz Anu Aba Amo Aco Hsz Hla Hce Bsz Bla Bce Tma Tlc Ttc day lim low hig thr off cre rcp pay sv nx SL))))) → va_S A s.heap H locs → lv_has ls 20 [(0, .ref a0), (2, .ref ym0), (3, .ref yq0), (4, .ref yh0), (5, .ref yb0), (6, .ref ye0), (7, .int x7_71), (8, .long x8_72), (10, .long x10_73)] →  W p l e rmL_same s m ([.ref a0, .int p2, .ref ym0, .ref yq0, .ref yh0, .ref yb0, .ref ye0] : List Value).toArray below meth c H locs 0 0 (MQ below (xQi D cy (wAE cy ye0 ee ++ (wAM cy ym0 mm ++ (wAQ cy yq0 qq ++ (wAH cy yh0 hh ++ (wAB cy yb0 bb ++ wX7 cy a0 t0 t1 k0 k1 k2 s0 s1 s2 s3 s4 s5 s6 s7 s8 s9 s10 s11 hd Xle Xch Xpo Xltr Xfi Xse Xth Ksz' Kcl' Kke' Asz Anu Aba Amo Aco Hsz Hla Hce Bsz Bla Bce Tma Tlc Ttc day lim low hig thr off cre rcp pay sv nx SL))))) r A) ([.ref a0, .int p2, .ref ym0, .ref yq0, .ref yh0, .ref yb0, .ref ye0] : List Value).toArray s 0 0 A) (F0 m 529 ls []))) → W p l e rmL_same s m ([.ref a0, .int p2, .ref ym0, .ref yq0, .ref yh0, .ref yb0, .ref ye0] : List Value).toArray below meth c H locs 0 0 (MQ below (xQi D cy (wAE cy ye0 ee ++ (wAM cy ym0 mm ++ (wAQ cy yq0 qq ++ (wAH cy yh0 hh ++ (wAB cy yb0 bb ++ wX7 cy a0 t0 t1 k0 k1 k2 s0 s1 s2 s3 s4 s5 s6 s7 s8 s9 s10 s11 hd Xle Xch Xpo Xltr Xfi Xse Xth Ksz' Kcl' Kke' Asz Anu Aba Amo Aco Hsz Hla Hce Bsz Bla Bce Tma Tlc Ttc day lim low hig thr off cre rcp pay sv nx SL))))) r A) ([.ref a0, .int p2, .ref ym0, .ref yq0, .ref yh0, .ref yb0, .ref ye0] : List Value).toArray s 0 0 A) (F0 m 338 ls []) := by
    intro n
    induction n with
    | zero =>
      intro Ksz_246 Kcl_247 Kke_248 z12_249 o_338 H locs ls hf
      rw [fL_same_L338] at hf
      cases hf
    | succ n ih =>
      intro Ksz_246 Kcl_247 Kke_248 z12_249 o_338 H locs ls hf hP hD hS hl hr_338 kx_338
      rw [fL_same_L338] at hf
      refine lv_iload hx hb dL_same_338 (lv_at hl 9 rfl) ?_
      refine lv_iconst (v := 4) hx hb dL_same_340 (by decide) ?_
      refine lv_icmp_ge (tgt := 529) hx hb dL_same_341 (by decide) (fun c_253 => ?_) (fun c_253 => ?_)
      · have hf := x_t c_253 hf
        exact kx_338 Ksz_246 Kcl_247 Kke_248 (Option.some.inj hf).symm _ _ _ hP hD hS (lv_sub hl [0, 1, 2, 3, 4, 5, 6, 7, 8] rfl)
      · have hf := x_f c_253 hf
        refine lv_iconst (v := 0) hx hb dL_same_344 (by decide) ?_
        refine lv_istore (lv' := [(13, .int 0), (0, .ref a0), (2, .ref ym0), (3, .ref yq0), (4, .ref yh0), (5, .ref yb0), (6, .ref ye0), (7, .int x7_71), (8, .long x8_72), (10, .long x10_73), (12, .int z12_249)]) hx hb dL_same_345 hl (by decide) rfl (fun ls hl => ?_)
        have hL_347 : ∀ (n : Nat) (Ksz_257 : Int32) (Kcl_258 : Nat → Int32) (Kke_259 : Nat → Int32) (z13_260 : Int32) (o : ((Int32 × Int32 × (Nat → Int32) × (Nat → Int32)) ⊕ (Int32 × (Nat → Int32) × (Nat → Int32))) ⊕ (Int32 × (Nat → Int32) × (Nat → Int32))) (H : Heap) (locs : List Loc) (ls : Array Slot), fL_same_L347 mm qq hh Asz Anu Aba Amo Hsz Hce x7_71 x8_72 x10_73 z12_249 n Ksz_257 Kcl_258 Kke_259 z13_260 = some o → va_P D vwCl (wAE cy ye0 ee ++ (wAM cy ym0 mm ++ (wAQ cy yq0 qq ++ (wAH cy yh0 hh ++ (wAB cy yb0 bb ++ wX7 cy a0 t0 t1 k0 k1 k2 s0 s1 s2 s3 s4 s5 s6 s7 s8 s9 s10 s11 hd Xle Xch Xpo Xltr Xfi Xse Xth Ksz_257 Kcl_258 Kke_259 Asz Anu Aba Amo Aco Hsz Hla Hce Bsz Bla Bce Tma Tlc Ttc day lim low hig thr off cre rcp pay sv nx SL))))) H → va_D A (wAE cy ye0 ee ++ (wAM cy ym0 mm ++ (wAQ cy yq0 qq ++ (wAH cy yh0 hh ++ (wAB cy yb0 bb ++ wX7 cy a0 t0 t1 k0 k1 k2 s0 s1 s2 s3 s4 s5 s6 s7 s8 s9 s10 s11 hd Xle Xch Xpo Xltr Xfi Xse Xth Ksz_257 Kcl_258 Kke_259 Asz Anu Aba Amo Aco Hsz Hla Hce Bsz Bla Bce Tma Tlc Ttc day lim low hig thr off cre rcp pay sv nx SL))))) → va_S A s.heap H locs → lv_has ls 20 [(0, .ref a0), (2, .ref ym0), (3, .ref yq0), (4, .ref yh0), (5, .ref yb0), (6, .ref ye0), (7, .int x7_71), (8, .long x8_72), (10, .long x10_73), (12, .int z12_249), (13, .int z13_260)] → (∀ r', o = .inl r' → r' = o_338) → ((∀ (Ksz_261 : Int32) (Kcl_262 : Nat → Int32) (Kke_263 : Nat → Int32) , o = (.inr (Ksz_261, Kcl_262, Kke_263)) → ∀ (H : Heap) (locs : List Loc) (ls : Array Slot), va_P D vwCl (wAE cy ye0 ee ++ (wAM cy ym0 mm ++ (wAQ cy yq0 qq ++ (wAH cy yh0 hh ++ (wAB cy yb0 bb ++ wX7 cy a0 t0 t1 k0 k1 k2 s0 s1 s2 s3 s4 s5 s6 s7 s8 s9 s10 s11 hd Xle Xch Xpo Xltr Xfi Xse Xth Ksz_261 Kcl_262 Kke_263 Asz Anu Aba Amo Aco Hsz Hla Hce Bsz Bla Bce Tma Tlc Ttc day lim low hig thr off cre rcp pay sv nx SL))))) H → va_D A (wAE cy ye0 ee ++ (wAM cy ym0 mm ++ (wAQ cy yq0 qq ++ (wAH cy yh0 hh ++ (wAB cy yb0 bb ++ wX7 cy a0 t0 t1 k0 k1 k2 s0 s1 s2 s3 s4 s5 s6 s7 s8 s9 s10 s11 hd Xle Xch Xpo Xltr Xfi Xse Xth Ksz_261 Kcl_262 Kke_263 Asz Anu Aba Amo Aco Hsz Hla Hce Bsz Bla Bce Tma Tlc Ttc day lim low hig thr off cre rcp pay sv nx SL))))) → va_S A s.heap H locs → lv_has ls 20 [(0, .ref a0), (2, .ref ym0), (3, .ref yq0), (4, .ref yh0), (5, .ref yb0), (6, .ref ye0), (7, .int x7_71), (8, .long x8_72), (10, .long x10_73), (12, .int z12_249)] →  W p l e rmL_same s m ([.ref a0, .int p2, .ref ym0, .ref yq0, .ref yh0, .ref yb0, .ref ye0] : List Value).toArray below meth c H locs 0 0 (MQ below (xQi D cy (wAE cy ye0 ee ++ (wAM cy ym0 mm ++ (wAQ cy yq0 qq ++ (wAH cy yh0 hh ++ (wAB cy yb0 bb ++ wX7 cy a0 t0 t1 k0 k1 k2 s0 s1 s2 s3 s4 s5 s6 s7 s8 s9 s10 s11 hd Xle Xch Xpo Xltr Xfi Xse Xth Ksz' Kcl' Kke' Asz Anu Aba Amo Aco Hsz Hla Hce Bsz Bla Bce Tma Tlc Ttc day lim low hig thr off cre rcp pay sv nx SL))))) r A) ([.ref a0, .int p2, .ref ym0, .ref yq0, .ref yh0, .ref yb0, .ref ye0] : List Value).toArray s 0 0 A) (F0 m 523 ls []))) → W p l e rmL_same s m ([.ref a0, .int p2, .ref ym0, .ref yq0, .ref yh0, .ref yb0, .ref ye0] : List Value).toArray below meth c H locs 0 0 (MQ below (xQi D cy (wAE cy ye0 ee ++ (wAM cy ym0 mm ++ (wAQ cy yq0 qq ++ (wAH cy yh0 hh ++ (wAB cy yb0 bb ++ wX7 cy a0 t0 t1 k0 k1 k2 s0 s1 s2 s3 s4 s5 s6 s7 s8 s9 s10 s11 hd Xle Xch Xpo Xltr Xfi Xse Xth Ksz' Kcl' Kke' Asz Anu Aba Amo Aco Hsz Hla Hce Bsz Bla Bce Tma Tlc Ttc day lim low hig thr off cre rcp pay sv nx SL))))) r A) ([.ref a0, .int p2, .ref ym0, .ref yq0, .ref yh0, .ref yb0, .ref ye0] : List Value).toArray s 0 0 A) (F0 m 347 ls []) := by
          intro n
          induction n with
          | zero =>
            intro Ksz_257 Kcl_258 Kke_259 z13_260 o_347 H locs ls hf
            rw [fL_same_L347] at hf
            cases hf
          | succ n ih =>
            intro Ksz_257 Kcl_258 Kke_259 z13_260 o_347 H locs ls hf hP hD hS hl hr_347 kx_347
            rw [fL_same_L347] at hf
            have hfL_same_J490 : ∀ (Kszj : Int32) (Kclj : Nat → Int32) (Kkej : Nat → Int32) (z13j : Int32) (z14j : Int32) (z15j : Int32) (z16j : Int64) (s0j : Int64) (H : Heap) (locs : List Loc) (ls : Array Slot), fL_same_J490 mm qq hh Asz Anu Aba Amo Hsz Hce x7_71 x8_72 x10_73 z12_249 Kszj Kclj Kkej z13j z14j z15j z16j s0j (fL_same_L347 mm qq hh Asz Anu Aba Amo Hsz Hce x7_71 x8_72 x10_73 z12_249 n) = some o_347 → va_P D vwCl (wAE cy ye0 ee ++ (wAM cy ym0 mm ++ (wAQ cy yq0 qq ++ (wAH cy yh0 hh ++ (wAB cy yb0 bb ++ wX7 cy a0 t0 t1 k0 k1 k2 s0 s1 s2 s3 s4 s5 s6 s7 s8 s9 s10 s11 hd Xle Xch Xpo Xltr Xfi Xse Xth Kszj Kclj Kkej Asz Anu Aba Amo Aco Hsz Hla Hce Bsz Bla Bce Tma Tlc Ttc day lim low hig thr off cre rcp pay sv nx SL))))) H → va_D A (wAE cy ye0 ee ++ (wAM cy ym0 mm ++ (wAQ cy yq0 qq ++ (wAH cy yh0 hh ++ (wAB cy yb0 bb ++ wX7 cy a0 t0 t1 k0 k1 k2 s0 s1 s2 s3 s4 s5 s6 s7 s8 s9 s10 s11 hd Xle Xch Xpo Xltr Xfi Xse Xth Kszj Kclj Kkej Asz Anu Aba Amo Aco Hsz Hla Hce Bsz Bla Bce Tma Tlc Ttc day lim low hig thr off cre rcp pay sv nx SL))))) → va_S A s.heap H locs → lv_has ls 20 [(0, .ref a0), (2, .ref ym0), (3, .ref yq0), (4, .ref yh0), (5, .ref yb0), (6, .ref ye0), (7, .int x7_71), (8, .long x8_72), (10, .long x10_73), (12, .int z12_249), (13, .int z13j), (14, .int z14j), (15, .int z15j), (16, .long z16j)] → W p l e rmL_same s m ([.ref a0, .int p2, .ref ym0, .ref yq0, .ref yh0, .ref yb0, .ref ye0] : List Value).toArray below meth c H locs 0 0 (MQ below (xQi D cy (wAE cy ye0 ee ++ (wAM cy ym0 mm ++ (wAQ cy yq0 qq ++ (wAH cy yh0 hh ++ (wAB cy yb0 bb ++ wX7 cy a0 t0 t1 k0 k1 k2 s0 s1 s2 s3 s4 s5 s6 s7 s8 s9 s10 s11 hd Xle Xch Xpo Xltr Xfi Xse Xth Ksz' Kcl' Kke' Asz Anu Aba Amo Aco Hsz Hla Hce Bsz Bla Bce Tma Tlc Ttc day lim low hig thr off cre rcp pay sv nx SL))))) r A) ([.ref a0, .int p2, .ref ym0, .ref yq0, .ref yh0, .ref yb0, .ref ye0] : List Value).toArray s 0 0 A) (F0 m 490 ls [.long s0j]) := by
              intro Kszj Kclj Kkej z13j z14j z15j z16j s0j H locs ls hf hP hD hS hl
              unfold fL_same_J490 at hf
              refine lv_lstore (lv' := [(18, .long s0j), (0, .ref a0), (2, .ref ym0), (3, .ref yq0), (4, .ref yh0), (5, .ref yb0), (6, .ref ye0), (7, .int x7_71), (8, .long x8_72), (10, .long x10_73), (12, .int z12_249), (13, .int z13j), (14, .int z14j), (15, .int z15j), (16, .long z16j)]) hx hb dL_same_490 hl (by decide) rfl (fun ls hl => ?_)
              refine lv_lload hx hb dL_same_492 (lv_at hl 14 rfl) ?_
              refine lv_lload hx hb dL_same_494 (lv_at hl 0 rfl) ?_
              refine W.lcmp hx hb dL_same_496 ?_
              refine lv_if_gt (tgt := 515) hx hb dL_same_497 (by decide) (fun c_285 => ?_) (fun c_285 => ?_)
              · have c_285 := (lg_cmp_gt _ _).mp c_285
                have hf := x_t c_285 hf
                refine lv_iconst (v := 0) hx hb dL_same_515 (by decide) ?_
                have hf := Option.some.inj hf
                have hf := (hr_347 _ hf.symm)
                have hf := (hr_338 _ hf.symm)
                cases hf
                exact x_zret hx hb hr hlocks hK hP hD hS rfl dL_same_516
              · have c_285 := fun q => c_285 ((lg_cmp_gt _ _).mpr q)
                have hf := x_f c_285 hf
                refine lv_lload hx hb dL_same_500 (lv_at hl 14 rfl) ?_
                refine lv_lload hx hb dL_same_502 (lv_at hl 0 rfl) ?_
                refine W.lcmp hx hb dL_same_504 ?_
                refine lv_if_ne (tgt := 517) hx hb dL_same_505 (by decide) (fun c_286 => ?_) (fun c_286 => ?_)
                · have c_286 := fun q => c_286 ((lg_cmp_eq _ _).mpr q)
                  have hf := x_f c_286 hf
                  refine lv_iinc (v := (z13j + 1)) (lv' := [(13, .int (z13j + 1)), (18, .long s0j), (0, .ref a0), (2, .ref ym0), (3, .ref yq0), (4, .ref yh0), (5, .ref yb0), (6, .ref ye0), (7, .int x7_71), (8, .long x8_72), (10, .long x10_73), (12, .int z12_249), (14, .int z14j), (15, .int z15j), (16, .long z16j)]) hx hb dL_same_517 hl (k := 11) rfl rfl (by decide) rfl (fun ls hl => ?_)
                  refine lv_goto (tgt := 347) hx hb dL_same_520 (by decide) ?_
                  exact ih Kszj Kclj Kkej (z13j + 1) _ _ _ _ hf hP hD hS (lv_sub hl [2, 3, 4, 5, 6, 7, 8, 9, 10, 11, 0] rfl) hr_347 kx_347
                · have c_286 := (lg_cmp_eq _ _).mp c_286
                  have hf := x_t c_286 hf
                  refine lv_iload hx hb dL_same_508 (lv_at hl 12 rfl) ?_
                  refine lv_iload hx hb dL_same_510 (lv_at hl 13 rfl) ?_
                  refine lv_icmp_le (tgt := 517) hx hb dL_same_512 (by decide) (fun c_287 => ?_) (fun c_287 => ?_)
                  · have hf := x_t c_287 hf
                    refine lv_iinc (v := (z13j + 1)) (lv' := [(13, .int (z13j + 1)), (18, .long s0j), (0, .ref a0), (2, .ref ym0), (3, .ref yq0), (4, .ref yh0), (5, .ref yb0), (6, .ref ye0), (7, .int x7_71), (8, .long x8_72), (10, .long x10_73), (12, .int z12_249), (14, .int z14j), (15, .int z15j), (16, .long z16j)]) hx hb dL_same_517 hl (k := 11) rfl rfl (by decide) rfl (fun ls hl => ?_)
                    refine lv_goto (tgt := 347) hx hb dL_same_520 (by decide) ?_
                    exact ih Kszj Kclj Kkej (z13j + 1) _ _ _ _ hf hP hD hS (lv_sub hl [2, 3, 4, 5, 6, 7, 8, 9, 10, 11, 0] rfl) hr_347 kx_347
                  · have hf := x_f c_287 hf
                    refine lv_iconst (v := 0) hx hb dL_same_515 (by decide) ?_
                    have hf := Option.some.inj hf
                    have hf := (hr_347 _ hf.symm)
                    have hf := (hr_338 _ hf.symm)
                    cases hf
                    exact x_zret hx hb hr hlocks hK hP hD hS rfl dL_same_516
            have hfL_same_J447 : ∀ (Kszj : Int32) (Kclj : Nat → Int32) (Kkej : Nat → Int32) (z13j : Int32) (z14j : Int32) (z15j : Int32) (s0j : Int64) (H : Heap) (locs : List Loc) (ls : Array Slot), fL_same_J447 mm qq hh Asz Anu Aba Amo Hsz Hce x7_71 x8_72 x10_73 z12_249 Kszj Kclj Kkej z13j z14j z15j s0j (fL_same_L347 mm qq hh Asz Anu Aba Amo Hsz Hce x7_71 x8_72 x10_73 z12_249 n) = some o_347 → va_P D vwCl (wAE cy ye0 ee ++ (wAM cy ym0 mm ++ (wAQ cy yq0 qq ++ (wAH cy yh0 hh ++ (wAB cy yb0 bb ++ wX7 cy a0 t0 t1 k0 k1 k2 s0 s1 s2 s3 s4 s5 s6 s7 s8 s9 s10 s11 hd Xle Xch Xpo Xltr Xfi Xse Xth Kszj Kclj Kkej Asz Anu Aba Amo Aco Hsz Hla Hce Bsz Bla Bce Tma Tlc Ttc day lim low hig thr off cre rcp pay sv nx SL))))) H → va_D A (wAE cy ye0 ee ++ (wAM cy ym0 mm ++ (wAQ cy yq0 qq ++ (wAH cy yh0 hh ++ (wAB cy yb0 bb ++ wX7 cy a0 t0 t1 k0 k1 k2 s0 s1 s2 s3 s4 s5 s6 s7 s8 s9 s10 s11 hd Xle Xch Xpo Xltr Xfi Xse Xth Kszj Kclj Kkej Asz Anu Aba Amo Aco Hsz Hla Hce Bsz Bla Bce Tma Tlc Ttc day lim low hig thr off cre rcp pay sv nx SL))))) → va_S A s.heap H locs → lv_has ls 20 [(0, .ref a0), (2, .ref ym0), (3, .ref yq0), (4, .ref yh0), (5, .ref yb0), (6, .ref ye0), (7, .int x7_71), (8, .long x8_72), (10, .long x10_73), (12, .int z12_249), (13, .int z13j), (14, .int z14j), (15, .int z15j)] → W p l e rmL_same s m ([.ref a0, .int p2, .ref ym0, .ref yq0, .ref yh0, .ref yb0, .ref ye0] : List Value).toArray below meth c H locs 0 0 (MQ below (xQi D cy (wAE cy ye0 ee ++ (wAM cy ym0 mm ++ (wAQ cy yq0 qq ++ (wAH cy yh0 hh ++ (wAB cy yb0 bb ++ wX7 cy a0 t0 t1 k0 k1 k2 s0 s1 s2 s3 s4 s5 s6 s7 s8 s9 s10 s11 hd Xle Xch Xpo Xltr Xfi Xse Xth Ksz' Kcl' Kke' Asz Anu Aba Amo Aco Hsz Hla Hce Bsz Bla Bce Tma Tlc Ttc day lim low hig thr off cre rcp pay sv nx SL))))) r A) ([.ref a0, .int p2, .ref ym0, .ref yq0, .ref yh0, .ref yb0, .ref ye0] : List Value).toArray s 0 0 A) (F0 m 447 ls [.long s0j]) := by
              intro Kszj Kclj Kkej z13j z14j z15j s0j H locs ls hf hP hD hS hl
              unfold fL_same_J447 at hf
              refine lv_lstore (lv' := [(16, .long s0j), (0, .ref a0), (2, .ref ym0), (3, .ref yq0), (4, .ref yh0), (5, .ref yb0), (6, .ref ye0), (7, .int x7_71), (8, .long x8_72), (10, .long x10_73), (12, .int z12_249), (13, .int z13j), (14, .int z14j), (15, .int z15j)]) hx hb dL_same_447 hl (by decide) rfl (fun ls hl => ?_)
              refine lv_iload hx hb dL_same_449 (lv_at hl 10 rfl) ?_
              refine lv_iconst (v := 1) hx hb dL_same_451 (by decide) ?_
              refine lv_icmp_ne (tgt := 463) hx hb dL_same_452 (by decide) (fun c_282 => ?_) (fun c_282 => ?_)
              · have hf := x_f c_282 hf
                refine lv_iload hx hb dL_same_463 (lv_at hl 10 rfl) ?_
                refine lv_iconst (v := 2) hx hb dL_same_465 (by decide) ?_
                refine lv_icmp_ne (tgt := 482) hx hb dL_same_466 (by decide) (fun c_283 => ?_) (fun c_283 => ?_)
                · have hf := x_f c_283 hf
                  refine lv_aload_n hx hb dL_same_482 rfl (lv_at hl 3 rfl) ?_
                  refine lv_bipush (v := 10) hx hb dL_same_483 (by decide) ?_
                  refine lv_iload hx hb dL_same_485 (lv_at hl 13 rfl) ?_
                  refine lv_iadd hx hb dL_same_487 ?_
                  obtain ⟨hi_284, hf⟩ := ckI_el hf
                  refine va_iald hx hb hK hP 2 1 rfl rfl hi_284 dL_same_488 ?_
                  refine lv_i2l (v := (qq (10 + z15j).toNatClampNeg).toInt64) hx hb dL_same_489 rfl ?_
                  exact hfL_same_J490 Kszj Kclj Kkej z13j z14j z15j s0j ((qq (10 + z15j).toNatClampNeg).toInt64) _ _ _ hf hP hD hS (lv_sub hl [1, 2, 3, 4, 5, 6, 7, 8, 9, 10, 11, 12, 13, 0] rfl)
                · have hf := x_t c_283 hf
                  refine lv_iload hx hb dL_same_469 (lv_at hl 13 rfl) ?_
                  refine lv_aload_n hx hb dL_same_471 rfl (lv_at hl 2 rfl) ?_
                  refine lv_aload_n hx hb dL_same_472 rfl (lv_at hl 3 rfl) ?_
                  refine lv_aload hx hb dL_same_473 (lv_at hl 4 rfl) ?_
                  obtain ⟨r_288, h_289, hf⟩ := bd1_el hf
                  refine x_callSi (As := [.int z15j, .ref ym0, .ref yq0, .ref yh0]) (rest := []) ⟨hx, hb, hml, hown, hts⟩ (mL_free l D cy ym0 yq0 yh0 mm qq hh z15j r_288 h_289) (va_cwS 4 hts (gcS_L_free hbg wm_10_7) rfl rfl rfl kdL_free ⟨Nat.le_of_ble_eq_true rfl, Nat.le_of_ble_eq_true rfl⟩) (w1 := wAE cy ye0 ee) (w2 := wAB cy yb0 bb ++ (wX7 cy a0 t0 t1 k0 k1 k2 s0 s1 s2 s3 s4 s5 s6 s7 s8 s9 s10 s11 hd Xle Xch Xpo Xltr Xfi Xse Xth Kszj Kclj Kkej Asz Anu Aba Amo Aco Hsz Hla Hce Bsz Bla Bce Tma Tlc Ttc day lim low hig thr off cre rcp pay sv nx SL)) (w' := wAE cy ye0 ee ++ (wAM cy ym0 mm ++ (wAQ cy yq0 qq ++ (wAH cy yh0 hh ++ (wAB cy yb0 bb ++ wX7 cy a0 t0 t1 k0 k1 k2 s0 s1 s2 s3 s4 s5 s6 s7 s8 s9 s10 s11 hd Xle Xch Xpo Xltr Xfi Xse Xth Kszj Kclj Kkej Asz Anu Aba Amo Aco Hsz Hla Hce Bsz Bla Bce Tma Tlc Ttc day lim low hig thr off cre rcp pay sv nx SL))))) (by simp only [List.append_assoc, List.append_nil, List.nil_append]) (by simp only [List.append_assoc, List.append_nil, List.nil_append]) hP hK hD hN hS hA rfl hl rfl (Nat.le_of_ble_eq_true rfl) dL_same_475 ⟨Nat.zero_le _, Nat.zero_le _⟩ (fun H locs hP hD hS => ?_)
                  refine lv_i2l (v := r_288.toInt64) hx hb dL_same_478 rfl ?_
                  refine lv_goto (tgt := 490) hx hb dL_same_479 (by decide) ?_
                  exact hfL_same_J490 Kszj Kclj Kkej z13j z14j z15j s0j r_288.toInt64 _ _ _ hf hP hD hS (lv_sub hl [1, 2, 3, 4, 5, 6, 7, 8, 9, 10, 11, 12, 13, 0] rfl)
              · have hf := x_t c_282 hf
                refine lv_aload_n hx hb dL_same_455 rfl (lv_at hl 2 rfl) ?_
                refine lv_iload hx hb dL_same_456 (lv_at hl 13 rfl) ?_
                obtain ⟨hi_290, hf⟩ := ckI_el hf
                refine va_lald hx hb hK hP 1 2 rfl rfl hi_290 dL_same_458 ?_
                refine lv_lneg hx hb dL_same_459 ?_
                refine lv_goto (tgt := 490) hx hb dL_same_460 (by decide) ?_
                exact hfL_same_J490 Kszj Kclj Kkej z13j z14j z15j s0j (-(mm z15j.toNatClampNeg)) _ _ _ hf hP hD hS (lv_sub hl [1, 2, 3, 4, 5, 6, 7, 8, 9, 10, 11, 12, 13, 0] rfl)
            refine lv_iload hx hb dL_same_347 (lv_at hl 10 rfl) ?_
            refine lv_iconst (v := 1) hx hb dL_same_349 (by decide) ?_
            refine lv_iadd hx hb dL_same_350 ?_
            refine lv_iload hx hb dL_same_351 (lv_at hl 6 rfl) ?_
            refine lv_icmp_ge (tgt := 523) hx hb dL_same_353 (by decide) (fun c_264 => ?_) (fun c_264 => ?_)
            · have hf := x_t c_264 hf
              exact kx_347 Ksz_257 Kcl_258 Kke_259 (Option.some.inj hf).symm _ _ _ hP hD hS (lv_sub hl [0, 1, 2, 3, 4, 5, 6, 7, 8, 9] rfl)
            · have hf := x_f c_264 hf
              refine lv_aload_n hx hb dL_same_356 rfl (lv_at hl 0 rfl) ?_
              refine lv_iload hx hb dL_same_357 (lv_at hl 9 rfl) ?_
              refine lv_iload hx hb dL_same_359 (lv_at hl 10 rfl) ?_
              obtain ⟨r_265, Ksz_266, Kcl_267, Kke_268, h_269, hf⟩ := bd4_el hf
              refine x_callVi (As := [.int z12_249, .int z13_260]) (rest := []) ⟨hx, hb, hml, hown, hts⟩ (mX7_ranked l D cy a0 t0 t1 k0 k1 k2 s0 s1 s2 s3 s4 s5 s6 s7 s8 s9 s10 s11 hd Xle Xch Xpo Xltr Xfi Xse Xth Ksz_257 Kcl_258 Kke_259 Asz Anu Aba Amo Aco Hsz Hla Hce Bsz Bla Bce Tma Tlc Ttc day lim low hig thr off cre rcp pay sv nx SL z12_249 z13_260 r_265 Ksz_266 Kcl_267 Kke_268 h_269) (cwV 2 hts (gcV_X7_ranked hbg wm_20_6) rfl rfl rfl kdX7_ranked ⟨Nat.le_of_ble_eq_true rfl, Nat.le_of_ble_eq_true rfl⟩) (w1 := wAE cy ye0 ee ++ (wAM cy ym0 mm ++ (wAQ cy yq0 qq ++ (wAH cy yh0 hh ++ (wAB cy yb0 bb))))) (w2 := []) (w' := wAE cy ye0 ee ++ (wAM cy ym0 mm ++ (wAQ cy yq0 qq ++ (wAH cy yh0 hh ++ (wAB cy yb0 bb ++ wX7 cy a0 t0 t1 k0 k1 k2 s0 s1 s2 s3 s4 s5 s6 s7 s8 s9 s10 s11 hd Xle Xch Xpo Xltr Xfi Xse Xth Ksz_266 Kcl_267 Kke_268 Asz Anu Aba Amo Aco Hsz Hla Hce Bsz Bla Bce Tma Tlc Ttc day lim low hig thr off cre rcp pay sv nx SL))))) (by simp only [List.append_assoc, List.append_nil, List.nil_append]) (by simp only [List.append_assoc, List.append_nil, List.nil_append]) hP hK hD hN hS hA (q0 := 0) rfl rfl rfl rfl hl rfl (Nat.le_of_ble_eq_true rfl) dL_same_361 ⟨Nat.zero_le _, Nat.zero_le _⟩ (fun H locs hP hD hS => ?_)
              refine lv_istore (lv' := [(14, .int r_265), (0, .ref a0), (2, .ref ym0), (3, .ref yq0), (4, .ref yh0), (5, .ref yb0), (6, .ref ye0), (7, .int x7_71), (8, .long x8_72), (10, .long x10_73), (12, .int z12_249), (13, .int z13_260)]) hx hb dL_same_364 hl (by decide) rfl (fun ls hl => ?_)
              refine lv_aload_n hx hb dL_same_366 rfl (lv_at hl 1 rfl) ?_
              refine lv_iload hx hb dL_same_367 (lv_at hl 10 rfl) ?_
              refine lv_iload hx hb dL_same_369 (lv_at hl 11 rfl) ?_
              refine lv_iconst (v := 1) hx hb dL_same_371 (by decide) ?_
              refine lv_iadd hx hb dL_same_372 ?_
              obtain ⟨r_270, Ksz_271, Kcl_272, Kke_273, h_274, hf⟩ := bd4_el hf
              refine x_callVi (As := [.int z12_249, .int (z13_260 + 1)]) (rest := []) ⟨hx, hb, hml, hown, hts⟩ (mX7_ranked l D cy a0 t0 t1 k0 k1 k2 s0 s1 s2 s3 s4 s5 s6 s7 s8 s9 s10 s11 hd Xle Xch Xpo Xltr Xfi Xse Xth Ksz_266 Kcl_267 Kke_268 Asz Anu Aba Amo Aco Hsz Hla Hce Bsz Bla Bce Tma Tlc Ttc day lim low hig thr off cre rcp pay sv nx SL z12_249 (z13_260 + 1) r_270 Ksz_271 Kcl_272 Kke_273 h_274) (cwV 2 hts (gcV_X7_ranked hbg wm_20_6) rfl rfl rfl kdX7_ranked ⟨Nat.le_of_ble_eq_true rfl, Nat.le_of_ble_eq_true rfl⟩) (w1 := wAE cy ye0 ee ++ (wAM cy ym0 mm ++ (wAQ cy yq0 qq ++ (wAH cy yh0 hh ++ (wAB cy yb0 bb))))) (w2 := []) (w' := wAE cy ye0 ee ++ (wAM cy ym0 mm ++ (wAQ cy yq0 qq ++ (wAH cy yh0 hh ++ (wAB cy yb0 bb ++ wX7 cy a0 t0 t1 k0 k1 k2 s0 s1 s2 s3 s4 s5 s6 s7 s8 s9 s10 s11 hd Xle Xch Xpo Xltr Xfi Xse Xth Ksz_271 Kcl_272 Kke_273 Asz Anu Aba Amo Aco Hsz Hla Hce Bsz Bla Bce Tma Tlc Ttc day lim low hig thr off cre rcp pay sv nx SL))))) (by simp only [List.append_assoc, List.append_nil, List.nil_append]) (by simp only [List.append_assoc, List.append_nil, List.nil_append]) hP hK hD hN hS hA (q0 := 0) rfl rfl rfl rfl hl rfl (Nat.le_of_ble_eq_true rfl) dL_same_373 ⟨Nat.zero_le _, Nat.zero_le _⟩ (fun H locs hP hD hS => ?_)
              refine lv_istore (lv' := [(15, .int r_270), (14, .int r_265), (0, .ref a0), (2, .ref ym0), (3, .ref yq0), (4, .ref yh0), (5, .ref yb0), (6, .ref ye0), (7, .int x7_71), (8, .long x8_72), (10, .long x10_73), (12, .int z12_249), (13, .int z13_260)]) hx hb dL_same_376 hl (by decide) rfl (fun ls hl => ?_)
              refine lv_iload hx hb dL_same_378 (lv_at hl 1 rfl) ?_
              refine lv_iconst (v := 1) hx hb dL_same_380 (by decide) ?_
              refine lv_icmp_lt (tgt := 404) hx hb dL_same_381 (by decide) (fun c_275 => ?_) (fun c_275 => ?_)
              · have hf := x_t c_275 hf
                refine lv_iconst (v := 0) hx hb dL_same_404 (by decide) ?_
                have hf := Option.some.inj hf
                have hf := (hr_347 _ hf.symm)
                have hf := (hr_338 _ hf.symm)
                cases hf
                exact x_zret hx hb hr hlocks hK hP hD hS rfl dL_same_405
              · have hf := x_f c_275 hf
                refine lv_iload hx hb dL_same_384 (lv_at hl 1 rfl) ?_
                refine lv_bipush (v := 6) hx hb dL_same_386 (by decide) ?_
                refine lv_icmp_gt (tgt := 404) hx hb dL_same_388 (by decide) (fun c_276 => ?_) (fun c_276 => ?_)
                · have hf := x_t c_276 hf
                  refine lv_iconst (v := 0) hx hb dL_same_404 (by decide) ?_
                  have hf := Option.some.inj hf
                  have hf := (hr_347 _ hf.symm)
                  have hf := (hr_338 _ hf.symm)
                  cases hf
                  exact x_zret hx hb hr hlocks hK hP hD hS rfl dL_same_405
                · have hf := x_f c_276 hf
                  refine lv_iload hx hb dL_same_391 (lv_at hl 0 rfl) ?_
                  refine lv_iconst (v := 1) hx hb dL_same_393 (by decide) ?_
                  refine lv_icmp_lt (tgt := 404) hx hb dL_same_394 (by decide) (fun c_277 => ?_) (fun c_277 => ?_)
                  · have hf := x_t c_277 hf
                    refine lv_iconst (v := 0) hx hb dL_same_404 (by decide) ?_
                    have hf := Option.some.inj hf
                    have hf := (hr_347 _ hf.symm)
                    have hf := (hr_338 _ hf.symm)
                    cases hf
                    exact x_zret hx hb hr hlocks hK hP hD hS rfl dL_same_405
                  · have hf := x_f c_277 hf
                    refine lv_iload hx hb dL_same_397 (lv_at hl 0 rfl) ?_
                    refine lv_bipush (v := 6) hx hb dL_same_399 (by decide) ?_
                    refine lv_icmp_le (tgt := 406) hx hb dL_same_401 (by decide) (fun c_278 => ?_) (fun c_278 => ?_)
                    · have hf := x_t c_278 hf
                      refine lv_iload hx hb dL_same_406 (lv_at hl 11 rfl) ?_
                      refine lv_iconst (v := 1) hx hb dL_same_408 (by decide) ?_
                      refine lv_icmp_ne (tgt := 420) hx hb dL_same_409 (by decide) (fun c_279 => ?_) (fun c_279 => ?_)
                      · have hf := x_f c_279 hf
                        refine lv_iload hx hb dL_same_420 (lv_at hl 11 rfl) ?_
                        refine lv_iconst (v := 2) hx hb dL_same_422 (by decide) ?_
                        refine lv_icmp_ne (tgt := 439) hx hb dL_same_423 (by decide) (fun c_280 => ?_) (fun c_280 => ?_)
                        · have hf := x_f c_280 hf
                          refine lv_aload_n hx hb dL_same_439 rfl (lv_at hl 4 rfl) ?_
                          refine lv_bipush (v := 10) hx hb dL_same_440 (by decide) ?_
                          refine lv_iload hx hb dL_same_442 (lv_at hl 1 rfl) ?_
                          refine lv_iadd hx hb dL_same_444 ?_
                          obtain ⟨hi_281, hf⟩ := ckI_el hf
                          refine va_iald hx hb hK hP 2 1 rfl rfl hi_281 dL_same_445 ?_
                          refine lv_i2l (v := (qq (10 + r_265).toNatClampNeg).toInt64) hx hb dL_same_446 rfl ?_
                          exact hfL_same_J447 Ksz_271 Kcl_272 Kke_273 z13_260 r_265 r_270 ((qq (10 + r_265).toNatClampNeg).toInt64) _ _ _ hf hP hD hS (lv_sub hl [2, 3, 4, 5, 6, 7, 8, 9, 10, 11, 12, 1, 0] rfl)
                        · have hf := x_t c_280 hf
                          refine lv_iload hx hb dL_same_426 (lv_at hl 1 rfl) ?_
                          refine lv_aload_n hx hb dL_same_428 rfl (lv_at hl 3 rfl) ?_
                          refine lv_aload_n hx hb dL_same_429 rfl (lv_at hl 4 rfl) ?_
                          refine lv_aload hx hb dL_same_430 (lv_at hl 5 rfl) ?_
                          obtain ⟨r_291, h_292, hf⟩ := bd1_el hf
                          refine x_callSi (As := [.int r_265, .ref ym0, .ref yq0, .ref yh0]) (rest := []) ⟨hx, hb, hml, hown, hts⟩ (mL_free l D cy ym0 yq0 yh0 mm qq hh r_265 r_291 h_292) (va_cwS 4 hts (gcS_L_free hbg wm_10_7) rfl rfl rfl kdL_free ⟨Nat.le_of_ble_eq_true rfl, Nat.le_of_ble_eq_true rfl⟩) (w1 := wAE cy ye0 ee) (w2 := wAB cy yb0 bb ++ (wX7 cy a0 t0 t1 k0 k1 k2 s0 s1 s2 s3 s4 s5 s6 s7 s8 s9 s10 s11 hd Xle Xch Xpo Xltr Xfi Xse Xth Ksz_271 Kcl_272 Kke_273 Asz Anu Aba Amo Aco Hsz Hla Hce Bsz Bla Bce Tma Tlc Ttc day lim low hig thr off cre rcp pay sv nx SL)) (w' := wAE cy ye0 ee ++ (wAM cy ym0 mm ++ (wAQ cy yq0 qq ++ (wAH cy yh0 hh ++ (wAB cy yb0 bb ++ wX7 cy a0 t0 t1 k0 k1 k2 s0 s1 s2 s3 s4 s5 s6 s7 s8 s9 s10 s11 hd Xle Xch Xpo Xltr Xfi Xse Xth Ksz_271 Kcl_272 Kke_273 Asz Anu Aba Amo Aco Hsz Hla Hce Bsz Bla Bce Tma Tlc Ttc day lim low hig thr off cre rcp pay sv nx SL))))) (by simp only [List.append_assoc, List.append_nil, List.nil_append]) (by simp only [List.append_assoc, List.append_nil, List.nil_append]) hP hK hD hN hS hA rfl hl rfl (Nat.le_of_ble_eq_true rfl) dL_same_432 ⟨Nat.zero_le _, Nat.zero_le _⟩ (fun H locs hP hD hS => ?_)
                          refine lv_i2l (v := r_291.toInt64) hx hb dL_same_435 rfl ?_
                          refine lv_goto (tgt := 447) hx hb dL_same_436 (by decide) ?_
                          exact hfL_same_J447 Ksz_271 Kcl_272 Kke_273 z13_260 r_265 r_270 r_291.toInt64 _ _ _ hf hP hD hS (lv_sub hl [2, 3, 4, 5, 6, 7, 8, 9, 10, 11, 12, 1, 0] rfl)
                      · have hf := x_t c_279 hf
                        refine lv_aload_n hx hb dL_same_412 rfl (lv_at hl 3 rfl) ?_
                        refine lv_iload hx hb dL_same_413 (lv_at hl 1 rfl) ?_
                        obtain ⟨hi_293, hf⟩ := ckI_el hf
                        refine va_lald hx hb hK hP 1 2 rfl rfl hi_293 dL_same_415 ?_
                        refine lv_lneg hx hb dL_same_416 ?_
                        refine lv_goto (tgt := 447) hx hb dL_same_417 (by decide) ?_
                        exact hfL_same_J447 Ksz_271 Kcl_272 Kke_273 z13_260 r_265 r_270 (-(mm r_265.toNatClampNeg)) _ _ _ hf hP hD hS (lv_sub hl [2, 3, 4, 5, 6, 7, 8, 9, 10, 11, 12, 1, 0] rfl)
                    · have hf := x_f c_278 hf
                      refine lv_iconst (v := 0) hx hb dL_same_404 (by decide) ?_
                      have hf := Option.some.inj hf
                      have hf := (hr_347 _ hf.symm)
                      have hf := (hr_338 _ hf.symm)
                      cases hf
                      exact x_zret hx hb hr hlocks hK hP hD hS rfl dL_same_405
        obtain ⟨o_347, h1_347, hr_347, hf⟩ := bs3_el hf
        refine hL_347 2147483648 Ksz_246 Kcl_247 Kke_248 0 o_347 _ _ _ h1_347 hP hD hS (lv_sub hl [1, 2, 3, 4, 5, 6, 7, 8, 9, 10, 0] rfl) hr_347 (fun Ksz_254 Kcl_255 Kke_256 ho H locs ls hP hD hS hl => ?_)
        have hf := hf Ksz_254 Kcl_255 Kke_256 ho
        refine lv_iinc (v := (z12_249 + 1)) (lv' := [(12, .int (z12_249 + 1)), (0, .ref a0), (2, .ref ym0), (3, .ref yq0), (4, .ref yh0), (5, .ref yb0), (6, .ref ye0), (7, .int x7_71), (8, .long x8_72), (10, .long x10_73)]) hx hb dL_same_523 hl (k := 9) rfl rfl (by decide) rfl (fun ls hl => ?_)
        refine lv_goto (tgt := 338) hx hb dL_same_526 (by decide) ?_
        exact ih Ksz_254 Kcl_255 Kke_256 (z12_249 + 1) _ _ _ _ hf hP hD hS (lv_sub hl [1, 2, 3, 4, 5, 6, 7, 8, 9, 0] rfl) hr_338 kx_338
  obtain ⟨o_338, h1_338, hr_338, hf⟩ := bs3_el hf
  refine hL_338 2147483648 Ksz_68 Kcl_69 Kke_70 1 o_338 _ _ _ h1_338 hP hD hS (lv_sub hl [1, 2, 3, 4, 5, 6, 7, 8, 9, 0] rfl) hr_338 (fun Ksz_108 Kcl_109 Kke_110 ho H locs ls hP hD hS hl => ?_)
  have hf := hf Ksz_108 Kcl_109 Kke_110 ho
  refine lv_iconst (v := 0) hx hb dL_same_529 (by decide) ?_
  refine lv_istore (lv' := [(12, .int 0), (0, .ref a0), (2, .ref ym0), (3, .ref yq0), (4, .ref yh0), (5, .ref yb0), (6, .ref ye0), (7, .int x7_71), (8, .long x8_72), (10, .long x10_73)]) hx hb dL_same_530 hl (by decide) rfl (fun ls hl => ?_)
  have hL_532 : ∀ (n : Nat) (z12_212 : Int32) (o : (Int32 × Int32 × (Nat → Int32) × (Nat → Int32)) ⊕ (Unit)) (H : Heap) (locs : List Loc) (ls : Array Slot), fL_same_L532 hh bb Ksz_108 Kcl_109 Kke_110 Hsz Hce Bsz Bce x7_71 x8_72 x10_73 n z12_212 = some o → va_P D vwCl (wAE cy ye0 ee ++ (wAM cy ym0 mm ++ (wAQ cy yq0 qq ++ (wAH cy yh0 hh ++ (wAB cy yb0 bb ++ wX7 cy a0 t0 t1 k0 k1 k2 s0 s1 s2 s3 s4 s5 s6 s7 s8 s9 s10 s11 hd Xle Xch Xpo Xltr Xfi Xse Xth Ksz_108 Kcl_109 Kke_110 Asz Anu Aba Amo Aco Hsz Hla Hce Bsz Bla Bce Tma Tlc Ttc day lim low hig thr off cre rcp pay sv nx SL))))) H → va_D A (wAE cy ye0 ee ++ (wAM cy ym0 mm ++ (wAQ cy yq0 qq ++ (wAH cy yh0 hh ++ (wAB cy yb0 bb ++ wX7 cy a0 t0 t1 k0 k1 k2 s0 s1 s2 s3 s4 s5 s6 s7 s8 s9 s10 s11 hd Xle Xch Xpo Xltr Xfi Xse Xth Ksz_108 Kcl_109 Kke_110 Asz Anu Aba Amo Aco Hsz Hla Hce Bsz Bla Bce Tma Tlc Ttc day lim low hig thr off cre rcp pay sv nx SL))))) → va_S A s.heap H locs → lv_has ls 20 [(0, .ref a0), (2, .ref ym0), (3, .ref yq0), (4, .ref yh0), (5, .ref yb0), (6, .ref ye0), (7, .int x7_71), (8, .long x8_72), (10, .long x10_73), (12, .int z12_212)] → (∀ r', o = .inl r' → r' = (r, Ksz', Kcl', Kke')) → ((o = (.inr ()) → ∀ (H : Heap) (locs : List Loc) (ls : Array Slot), va_P D vwCl (wAE cy ye0 ee ++ (wAM cy ym0 mm ++ (wAQ cy yq0 qq ++ (wAH cy yh0 hh ++ (wAB cy yb0 bb ++ wX7 cy a0 t0 t1 k0 k1 k2 s0 s1 s2 s3 s4 s5 s6 s7 s8 s9 s10 s11 hd Xle Xch Xpo Xltr Xfi Xse Xth Ksz_108 Kcl_109 Kke_110 Asz Anu Aba Amo Aco Hsz Hla Hce Bsz Bla Bce Tma Tlc Ttc day lim low hig thr off cre rcp pay sv nx SL))))) H → va_D A (wAE cy ye0 ee ++ (wAM cy ym0 mm ++ (wAQ cy yq0 qq ++ (wAH cy yh0 hh ++ (wAB cy yb0 bb ++ wX7 cy a0 t0 t1 k0 k1 k2 s0 s1 s2 s3 s4 s5 s6 s7 s8 s9 s10 s11 hd Xle Xch Xpo Xltr Xfi Xse Xth Ksz_108 Kcl_109 Kke_110 Asz Anu Aba Amo Aco Hsz Hla Hce Bsz Bla Bce Tma Tlc Ttc day lim low hig thr off cre rcp pay sv nx SL))))) → va_S A s.heap H locs → lv_has ls 20 [(0, .ref a0), (2, .ref ym0), (3, .ref yq0), (6, .ref ye0), (7, .int x7_71), (8, .long x8_72), (10, .long x10_73)] →  W p l e rmL_same s m ([.ref a0, .int p2, .ref ym0, .ref yq0, .ref yh0, .ref yb0, .ref ye0] : List Value).toArray below meth c H locs 0 0 (MQ below (xQi D cy (wAE cy ye0 ee ++ (wAM cy ym0 mm ++ (wAQ cy yq0 qq ++ (wAH cy yh0 hh ++ (wAB cy yb0 bb ++ wX7 cy a0 t0 t1 k0 k1 k2 s0 s1 s2 s3 s4 s5 s6 s7 s8 s9 s10 s11 hd Xle Xch Xpo Xltr Xfi Xse Xth Ksz' Kcl' Kke' Asz Anu Aba Amo Aco Hsz Hla Hce Bsz Bla Bce Tma Tlc Ttc day lim low hig thr off cre rcp pay sv nx SL))))) r A) ([.ref a0, .int p2, .ref ym0, .ref yq0, .ref yh0, .ref yb0, .ref ye0] : List Value).toArray s 0 0 A) (F0 m 733 ls []))) → W p l e rmL_same s m ([.ref a0, .int p2, .ref ym0, .ref yq0, .ref yh0, .ref yb0, .ref ye0] : List Value).toArray below meth c H locs 0 0 (MQ below (xQi D cy (wAE cy ye0 ee ++ (wAM cy ym0 mm ++ (wAQ cy yq0 qq ++ (wAH cy yh0 hh ++ (wAB cy yb0 bb ++ wX7 cy a0 t0 t1 k0 k1 k2 s0 s1 s2 s3 s4 s5 s6 s7 s8 s9 s10 s11 hd Xle Xch Xpo Xltr Xfi Xse Xth Ksz' Kcl' Kke' Asz Anu Aba Amo Aco Hsz Hla Hce Bsz Bla Bce Tma Tlc Ttc day lim low hig thr off cre rcp pay sv nx SL))))) r A) ([.ref a0, .int p2, .ref ym0, .ref yq0, .ref yh0, .ref yb0, .ref ye0] : List Value).toArray s 0 0 A) (F0 m 532 ls []) := by
    intro n
    induction n with
    | zero =>
      intro z12_212 o_532 H locs ls hf
      rw [fL_same_L532] at hf
      cases hf
    | succ n ih =>
      intro z12_212 o_532 H locs ls hf hP hD hS hl hr_532 kx_532
      rw [fL_same_L532] at hf
      have hfL_same_J675 : ∀ (z12j : Int32) (z13j : Int32) (s0j : Int32) (s1j : Int32) (H : Heap) (locs : List Loc) (ls : Array Slot), fL_same_J675 hh bb Ksz_108 Kcl_109 Kke_110 Hsz Hce Bsz Bce x7_71 x8_72 x10_73 z12j z13j s0j s1j (fL_same_L532 hh bb Ksz_108 Kcl_109 Kke_110 Hsz Hce Bsz Bce x7_71 x8_72 x10_73 n) = some o_532 → va_P D vwCl (wAE cy ye0 ee ++ (wAM cy ym0 mm ++ (wAQ cy yq0 qq ++ (wAH cy yh0 hh ++ (wAB cy yb0 bb ++ wX7 cy a0 t0 t1 k0 k1 k2 s0 s1 s2 s3 s4 s5 s6 s7 s8 s9 s10 s11 hd Xle Xch Xpo Xltr Xfi Xse Xth Ksz_108 Kcl_109 Kke_110 Asz Anu Aba Amo Aco Hsz Hla Hce Bsz Bla Bce Tma Tlc Ttc day lim low hig thr off cre rcp pay sv nx SL))))) H → va_D A (wAE cy ye0 ee ++ (wAM cy ym0 mm ++ (wAQ cy yq0 qq ++ (wAH cy yh0 hh ++ (wAB cy yb0 bb ++ wX7 cy a0 t0 t1 k0 k1 k2 s0 s1 s2 s3 s4 s5 s6 s7 s8 s9 s10 s11 hd Xle Xch Xpo Xltr Xfi Xse Xth Ksz_108 Kcl_109 Kke_110 Asz Anu Aba Amo Aco Hsz Hla Hce Bsz Bla Bce Tma Tlc Ttc day lim low hig thr off cre rcp pay sv nx SL))))) → va_S A s.heap H locs → lv_has ls 20 [(0, .ref a0), (2, .ref ym0), (3, .ref yq0), (4, .ref yh0), (5, .ref yb0), (6, .ref ye0), (7, .int x7_71), (8, .long x8_72), (10, .long x10_73), (12, .int z12j), (13, .int z13j)] → W p l e rmL_same s m ([.ref a0, .int p2, .ref ym0, .ref yq0, .ref yh0, .ref yb0, .ref ye0] : List Value).toArray below meth c H locs 0 0 (MQ below (xQi D cy (wAE cy ye0 ee ++ (wAM cy ym0 mm ++ (wAQ cy yq0 qq ++ (wAH cy yh0 hh ++ (wAB cy yb0 bb ++ wX7 cy a0 t0 t1 k0 k1 k2 s0 s1 s2 s3 s4 s5 s6 s7 s8 s9 s10 s11 hd Xle Xch Xpo Xltr Xfi Xse Xth Ksz' Kcl' Kke' Asz Anu Aba Amo Aco Hsz Hla Hce Bsz Bla Bce Tma Tlc Ttc day lim low hig thr off cre rcp pay sv nx SL))))) r A) ([.ref a0, .int p2, .ref ym0, .ref yq0, .ref yh0, .ref yb0, .ref ye0] : List Value).toArray s 0 0 A) (F0 m 675 ls [.int s0j, .int s1j]) := by
        intro z12j z13j s0j s1j H locs ls hf hP hD hS hl
        unfold fL_same_J675 at hf
        refine lv_icmp_ne (tgt := 725) hx hb dL_same_675 (by decide) (fun c_226 => ?_) (fun c_226 => ?_)
        · have hf := x_f c_226 hf
          refine lv_iconst (v := 0) hx hb dL_same_725 (by decide) ?_
          have hf := Option.some.inj hf
          have hf := (hr_532 _ hf.symm)
          cases hf
          exact x_zret hx hb hr hlocks hK hP hD hS rfl dL_same_726
        · have hf := x_t c_226 hf
          refine lv_iload hx hb dL_same_678 (lv_at hl 10 rfl) ?_
          refine lv_if_eq (tgt := 727) hx hb dL_same_680 (by decide) (fun c_227 => ?_) (fun c_227 => ?_)
          · have hf := x_t c_227 hf
            refine lv_iinc (v := (z12j + 1)) (lv' := [(12, .int (z12j + 1)), (0, .ref a0), (2, .ref ym0), (3, .ref yq0), (4, .ref yh0), (5, .ref yb0), (6, .ref ye0), (7, .int x7_71), (8, .long x8_72), (10, .long x10_73), (13, .int z13j)]) hx hb dL_same_727 hl (k := 9) rfl rfl (by decide) rfl (fun ls hl => ?_)
            refine lv_goto (tgt := 532) hx hb dL_same_730 (by decide) ?_
            exact ih (z12j + 1) _ _ _ _ hf hP hD hS (lv_sub hl [1, 2, 3, 4, 5, 6, 7, 8, 9, 0] rfl) hr_532 kx_532
          · have hf := x_f c_227 hf
            refine lv_aload_n hx hb dL_same_683 rfl (lv_at hl 0 rfl) ?_
            refine lv_iload hx hb dL_same_684 (lv_at hl 9 rfl) ?_
            refine lv_iconst (v := 1) hx hb dL_same_686 (by decide) ?_
            refine lv_iadd hx hb dL_same_687 ?_
            refine lv_iconst (v := 1) hx hb dL_same_688 (by decide) ?_
            obtain ⟨r_228, h_229, hf⟩ := bd1_el hf
            refine x_callVi (As := [.int (z12j + 1), .int 1]) (rest := []) ⟨hx, hb, hml, hown, hts⟩ (mX7_billOf l D cy a0 t0 t1 k0 k1 k2 s0 s1 s2 s3 s4 s5 s6 s7 s8 s9 s10 s11 hd Xle Xch Xpo Xltr Xfi Xse Xth Ksz_108 Kcl_109 Kke_110 Asz Anu Aba Amo Aco Hsz Hla Hce Bsz Bla Bce Tma Tlc Ttc day lim low hig thr off cre rcp pay sv nx SL (z12j + 1) 1 r_228 h_229) (cwV 2 hts (gcV_X7_billOf hbg wm_21_15) rfl rfl rfl kdX7_billOf ⟨Nat.le_of_ble_eq_true rfl, Nat.le_of_ble_eq_true rfl⟩) (w1 := wAE cy ye0 ee ++ (wAM cy ym0 mm ++ (wAQ cy yq0 qq ++ (wAH cy yh0 hh ++ (wAB cy yb0 bb))))) (w2 := []) (w' := wAE cy ye0 ee ++ (wAM cy ym0 mm ++ (wAQ cy yq0 qq ++ (wAH cy yh0 hh ++ (wAB cy yb0 bb ++ wX7 cy a0 t0 t1 k0 k1 k2 s0 s1 s2 s3 s4 s5 s6 s7 s8 s9 s10 s11 hd Xle Xch Xpo Xltr Xfi Xse Xth Ksz_108 Kcl_109 Kke_110 Asz Anu Aba Amo Aco Hsz Hla Hce Bsz Bla Bce Tma Tlc Ttc day lim low hig thr off cre rcp pay sv nx SL))))) (by simp only [List.append_assoc, List.append_nil, List.nil_append]) (by simp only [List.append_assoc, List.append_nil, List.nil_append]) hP hK hD hN hS hA (q0 := 0) rfl rfl rfl rfl hl rfl (Nat.le_of_ble_eq_true rfl) dL_same_689 ⟨Nat.zero_le _, Nat.zero_le _⟩ (fun H locs hP hD hS => ?_)
            refine lv_aload hx hb dL_same_692 (lv_at hl 4 rfl) ?_
            refine lv_iconst (v := 3) hx hb dL_same_694 (by decide) ?_
            refine lv_iload hx hb dL_same_695 (lv_at hl 9 rfl) ?_
            refine lv_imul hx hb dL_same_697 ?_
            refine lv_iconst (v := 1) hx hb dL_same_698 (by decide) ?_
            refine lv_iadd hx hb dL_same_699 ?_
            obtain ⟨hi_230, hf⟩ := ckI_el hf
            refine va_iald hx hb hK hP 4 1 rfl rfl hi_230 dL_same_700 ?_
            refine lv_icmp_ne (tgt := 725) hx hb dL_same_701 (by decide) (fun c_231 => ?_) (fun c_231 => ?_)
            · have hf := x_f c_231 hf
              refine lv_iconst (v := 0) hx hb dL_same_725 (by decide) ?_
              have hf := Option.some.inj hf
              have hf := (hr_532 _ hf.symm)
              cases hf
              exact x_zret hx hb hr hlocks hK hP hD hS rfl dL_same_726
            · have hf := x_t c_231 hf
              refine lv_aload_n hx hb dL_same_704 rfl (lv_at hl 0 rfl) ?_
              refine lv_iload hx hb dL_same_705 (lv_at hl 9 rfl) ?_
              refine lv_iconst (v := 1) hx hb dL_same_707 (by decide) ?_
              refine lv_iadd hx hb dL_same_708 ?_
              refine lv_iconst (v := 2) hx hb dL_same_709 (by decide) ?_
              obtain ⟨r_232, h_233, hf⟩ := bd1_el hf
              refine x_callVi (As := [.int (z12j + 1), .int 2]) (rest := []) ⟨hx, hb, hml, hown, hts⟩ (mX7_billOf l D cy a0 t0 t1 k0 k1 k2 s0 s1 s2 s3 s4 s5 s6 s7 s8 s9 s10 s11 hd Xle Xch Xpo Xltr Xfi Xse Xth Ksz_108 Kcl_109 Kke_110 Asz Anu Aba Amo Aco Hsz Hla Hce Bsz Bla Bce Tma Tlc Ttc day lim low hig thr off cre rcp pay sv nx SL (z12j + 1) 2 r_232 h_233) (cwV 2 hts (gcV_X7_billOf hbg wm_21_15) rfl rfl rfl kdX7_billOf ⟨Nat.le_of_ble_eq_true rfl, Nat.le_of_ble_eq_true rfl⟩) (w1 := wAE cy ye0 ee ++ (wAM cy ym0 mm ++ (wAQ cy yq0 qq ++ (wAH cy yh0 hh ++ (wAB cy yb0 bb))))) (w2 := []) (w' := wAE cy ye0 ee ++ (wAM cy ym0 mm ++ (wAQ cy yq0 qq ++ (wAH cy yh0 hh ++ (wAB cy yb0 bb ++ wX7 cy a0 t0 t1 k0 k1 k2 s0 s1 s2 s3 s4 s5 s6 s7 s8 s9 s10 s11 hd Xle Xch Xpo Xltr Xfi Xse Xth Ksz_108 Kcl_109 Kke_110 Asz Anu Aba Amo Aco Hsz Hla Hce Bsz Bla Bce Tma Tlc Ttc day lim low hig thr off cre rcp pay sv nx SL))))) (by simp only [List.append_assoc, List.append_nil, List.nil_append]) (by simp only [List.append_assoc, List.append_nil, List.nil_append]) hP hK hD hN hS hA (q0 := 0) rfl rfl rfl rfl hl rfl (Nat.le_of_ble_eq_true rfl) dL_same_710 ⟨Nat.zero_le _, Nat.zero_le _⟩ (fun H locs hP hD hS => ?_)
              refine lv_aload hx hb dL_same_713 (lv_at hl 4 rfl) ?_
              refine lv_iconst (v := 3) hx hb dL_same_715 (by decide) ?_
              refine lv_iload hx hb dL_same_716 (lv_at hl 9 rfl) ?_
              refine lv_imul hx hb dL_same_718 ?_
              refine lv_iconst (v := 2) hx hb dL_same_719 (by decide) ?_
              refine lv_iadd hx hb dL_same_720 ?_
              obtain ⟨hi_234, hf⟩ := ckI_el hf
              refine va_iald hx hb hK hP 4 1 rfl rfl hi_234 dL_same_721 ?_
              refine lv_icmp_eq (tgt := 727) hx hb dL_same_722 (by decide) (fun c_235 => ?_) (fun c_235 => ?_)
              · have hf := x_t c_235 hf
                refine lv_iinc (v := (z12j + 1)) (lv' := [(12, .int (z12j + 1)), (0, .ref a0), (2, .ref ym0), (3, .ref yq0), (4, .ref yh0), (5, .ref yb0), (6, .ref ye0), (7, .int x7_71), (8, .long x8_72), (10, .long x10_73), (13, .int z13j)]) hx hb dL_same_727 hl (k := 9) rfl rfl (by decide) rfl (fun ls hl => ?_)
                refine lv_goto (tgt := 532) hx hb dL_same_730 (by decide) ?_
                exact ih (z12j + 1) _ _ _ _ hf hP hD hS (lv_sub hl [1, 2, 3, 4, 5, 6, 7, 8, 9, 0] rfl) hr_532 kx_532
              · have hf := x_f c_235 hf
                refine lv_iconst (v := 0) hx hb dL_same_725 (by decide) ?_
                have hf := Option.some.inj hf
                have hf := (hr_532 _ hf.symm)
                cases hf
                exact x_zret hx hb hr hlocks hK hP hD hS rfl dL_same_726
      have hfL_same_J648 : ∀ (z12j : Int32) (s0j : Int32) (H : Heap) (locs : List Loc) (ls : Array Slot), fL_same_J648 hh bb Ksz_108 Kcl_109 Kke_110 Hsz Hce Bsz Bce x7_71 x8_72 x10_73 z12j s0j (fL_same_L532 hh bb Ksz_108 Kcl_109 Kke_110 Hsz Hce Bsz Bce x7_71 x8_72 x10_73 n) = some o_532 → va_P D vwCl (wAE cy ye0 ee ++ (wAM cy ym0 mm ++ (wAQ cy yq0 qq ++ (wAH cy yh0 hh ++ (wAB cy yb0 bb ++ wX7 cy a0 t0 t1 k0 k1 k2 s0 s1 s2 s3 s4 s5 s6 s7 s8 s9 s10 s11 hd Xle Xch Xpo Xltr Xfi Xse Xth Ksz_108 Kcl_109 Kke_110 Asz Anu Aba Amo Aco Hsz Hla Hce Bsz Bla Bce Tma Tlc Ttc day lim low hig thr off cre rcp pay sv nx SL))))) H → va_D A (wAE cy ye0 ee ++ (wAM cy ym0 mm ++ (wAQ cy yq0 qq ++ (wAH cy yh0 hh ++ (wAB cy yb0 bb ++ wX7 cy a0 t0 t1 k0 k1 k2 s0 s1 s2 s3 s4 s5 s6 s7 s8 s9 s10 s11 hd Xle Xch Xpo Xltr Xfi Xse Xth Ksz_108 Kcl_109 Kke_110 Asz Anu Aba Amo Aco Hsz Hla Hce Bsz Bla Bce Tma Tlc Ttc day lim low hig thr off cre rcp pay sv nx SL))))) → va_S A s.heap H locs → lv_has ls 20 [(0, .ref a0), (2, .ref ym0), (3, .ref yq0), (4, .ref yh0), (5, .ref yb0), (6, .ref ye0), (7, .int x7_71), (8, .long x8_72), (10, .long x10_73), (12, .int z12j)] → W p l e rmL_same s m ([.ref a0, .int p2, .ref ym0, .ref yq0, .ref yh0, .ref yb0, .ref ye0] : List Value).toArray below meth c H locs 0 0 (MQ below (xQi D cy (wAE cy ye0 ee ++ (wAM cy ym0 mm ++ (wAQ cy yq0 qq ++ (wAH cy yh0 hh ++ (wAB cy yb0 bb ++ wX7 cy a0 t0 t1 k0 k1 k2 s0 s1 s2 s3 s4 s5 s6 s7 s8 s9 s10 s11 hd Xle Xch Xpo Xltr Xfi Xse Xth Ksz' Kcl' Kke' Asz Anu Aba Amo Aco Hsz Hla Hce Bsz Bla Bce Tma Tlc Ttc day lim low hig thr off cre rcp pay sv nx SL))))) r A) ([.ref a0, .int p2, .ref ym0, .ref yq0, .ref yh0, .ref yb0, .ref ye0] : List Value).toArray s 0 0 A) (F0 m 648 ls [.int s0j]) := by
        intro z12j s0j H locs ls hf hP hD hS hl
        unfold fL_same_J648 at hf
        refine lv_istore (lv' := [(13, .int s0j), (0, .ref a0), (2, .ref ym0), (3, .ref yq0), (4, .ref yh0), (5, .ref yb0), (6, .ref ye0), (7, .int x7_71), (8, .long x8_72), (10, .long x10_73), (12, .int z12j)]) hx hb dL_same_648 hl (by decide) rfl (fun ls hl => ?_)
        refine lv_aload_n hx hb dL_same_650 rfl (lv_at hl 1 rfl) ?_
        refine lv_iload hx hb dL_same_651 (lv_at hl 10 rfl) ?_
        refine lv_iconst (v := 1) hx hb dL_same_653 (by decide) ?_
        refine lv_iadd hx hb dL_same_654 ?_
        refine lv_iconst (v := 0) hx hb dL_same_655 (by decide) ?_
        obtain ⟨r_223, h_224, hf⟩ := bd1_el hf
        refine x_callVi (As := [.int (z12j + 1), .int 0]) (rest := []) ⟨hx, hb, hml, hown, hts⟩ (mX7_billOf l D cy a0 t0 t1 k0 k1 k2 s0 s1 s2 s3 s4 s5 s6 s7 s8 s9 s10 s11 hd Xle Xch Xpo Xltr Xfi Xse Xth Ksz_108 Kcl_109 Kke_110 Asz Anu Aba Amo Aco Hsz Hla Hce Bsz Bla Bce Tma Tlc Ttc day lim low hig thr off cre rcp pay sv nx SL (z12j + 1) 0 r_223 h_224) (cwV 2 hts (gcV_X7_billOf hbg wm_21_15) rfl rfl rfl kdX7_billOf ⟨Nat.le_of_ble_eq_true rfl, Nat.le_of_ble_eq_true rfl⟩) (w1 := wAE cy ye0 ee ++ (wAM cy ym0 mm ++ (wAQ cy yq0 qq ++ (wAH cy yh0 hh ++ (wAB cy yb0 bb))))) (w2 := []) (w' := wAE cy ye0 ee ++ (wAM cy ym0 mm ++ (wAQ cy yq0 qq ++ (wAH cy yh0 hh ++ (wAB cy yb0 bb ++ wX7 cy a0 t0 t1 k0 k1 k2 s0 s1 s2 s3 s4 s5 s6 s7 s8 s9 s10 s11 hd Xle Xch Xpo Xltr Xfi Xse Xth Ksz_108 Kcl_109 Kke_110 Asz Anu Aba Amo Aco Hsz Hla Hce Bsz Bla Bce Tma Tlc Ttc day lim low hig thr off cre rcp pay sv nx SL))))) (by simp only [List.append_assoc, List.append_nil, List.nil_append]) (by simp only [List.append_assoc, List.append_nil, List.nil_append]) hP hK hD hN hS hA (q0 := 0) rfl rfl rfl rfl hl rfl (Nat.le_of_ble_eq_true rfl) dL_same_656 ⟨Nat.zero_le _, Nat.zero_le _⟩ (fun H locs hP hD hS => ?_)
        refine lv_iload hx hb dL_same_659 (lv_at hl 0 rfl) ?_
        refine lv_if_eq (tgt := 674) hx hb dL_same_661 (by decide) (fun c_225 => ?_) (fun c_225 => ?_)
        · have hf := x_t c_225 hf
          refine lv_iconst (v := (-1)) hx hb dL_same_674 (by decide) ?_
          exact hfL_same_J675 z12j s0j (-1) r_223 _ _ _ hf hP hD hS (lv_sub hl [1, 2, 3, 4, 5, 6, 7, 8, 9, 10, 0] rfl)
        · have hf := x_f c_225 hf
          refine lv_aload hx hb dL_same_664 (lv_at hl 5 rfl) ?_
          refine lv_iconst (v := 3) hx hb dL_same_666 (by decide) ?_
          refine lv_iload hx hb dL_same_667 (lv_at hl 10 rfl) ?_
          refine lv_imul hx hb dL_same_669 ?_
          obtain ⟨hi_236, hf⟩ := ckI_el hf
          refine va_iald hx hb hK hP 4 1 rfl rfl hi_236 dL_same_670 ?_
          refine lv_goto (tgt := 675) hx hb dL_same_671 (by decide) ?_
          exact hfL_same_J675 z12j s0j (bb (3 * z12j).toNatClampNeg) r_223 _ _ _ hf hP hD hS (lv_sub hl [1, 2, 3, 4, 5, 6, 7, 8, 9, 10, 0] rfl)
      have hfL_same_J633 : ∀ (z12j : Int32) (H : Heap) (locs : List Loc) (ls : Array Slot), fL_same_J633 hh bb Ksz_108 Kcl_109 Kke_110 Hsz Hce Bsz Bce x7_71 x8_72 x10_73 z12j (fL_same_L532 hh bb Ksz_108 Kcl_109 Kke_110 Hsz Hce Bsz Bce x7_71 x8_72 x10_73 n) = some o_532 → va_P D vwCl (wAE cy ye0 ee ++ (wAM cy ym0 mm ++ (wAQ cy yq0 qq ++ (wAH cy yh0 hh ++ (wAB cy yb0 bb ++ wX7 cy a0 t0 t1 k0 k1 k2 s0 s1 s2 s3 s4 s5 s6 s7 s8 s9 s10 s11 hd Xle Xch Xpo Xltr Xfi Xse Xth Ksz_108 Kcl_109 Kke_110 Asz Anu Aba Amo Aco Hsz Hla Hce Bsz Bla Bce Tma Tlc Ttc day lim low hig thr off cre rcp pay sv nx SL))))) H → va_D A (wAE cy ye0 ee ++ (wAM cy ym0 mm ++ (wAQ cy yq0 qq ++ (wAH cy yh0 hh ++ (wAB cy yb0 bb ++ wX7 cy a0 t0 t1 k0 k1 k2 s0 s1 s2 s3 s4 s5 s6 s7 s8 s9 s10 s11 hd Xle Xch Xpo Xltr Xfi Xse Xth Ksz_108 Kcl_109 Kke_110 Asz Anu Aba Amo Aco Hsz Hla Hce Bsz Bla Bce Tma Tlc Ttc day lim low hig thr off cre rcp pay sv nx SL))))) → va_S A s.heap H locs → lv_has ls 20 [(0, .ref a0), (2, .ref ym0), (3, .ref yq0), (4, .ref yh0), (5, .ref yb0), (6, .ref ye0), (7, .int x7_71), (8, .long x8_72), (10, .long x10_73), (12, .int z12j)] → W p l e rmL_same s m ([.ref a0, .int p2, .ref ym0, .ref yq0, .ref yh0, .ref yb0, .ref ye0] : List Value).toArray below meth c H locs 0 0 (MQ below (xQi D cy (wAE cy ye0 ee ++ (wAM cy ym0 mm ++ (wAQ cy yq0 qq ++ (wAH cy yh0 hh ++ (wAB cy yb0 bb ++ wX7 cy a0 t0 t1 k0 k1 k2 s0 s1 s2 s3 s4 s5 s6 s7 s8 s9 s10 s11 hd Xle Xch Xpo Xltr Xfi Xse Xth Ksz' Kcl' Kke' Asz Anu Aba Amo Aco Hsz Hla Hce Bsz Bla Bce Tma Tlc Ttc day lim low hig thr off cre rcp pay sv nx SL))))) r A) ([.ref a0, .int p2, .ref ym0, .ref yq0, .ref yh0, .ref yb0, .ref ye0] : List Value).toArray s 0 0 A) (F0 m 633 ls []) := by
        intro z12j H locs ls hf hP hD hS hl
        unfold fL_same_J633 at hf
        refine lv_aload hx hb dL_same_633 (lv_at hl 4 rfl) ?_
        refine lv_iconst (v := 3) hx hb dL_same_635 (by decide) ?_
        refine lv_iload hx hb dL_same_636 (lv_at hl 9 rfl) ?_
        refine lv_imul hx hb dL_same_638 ?_
        obtain ⟨hi_221, hf⟩ := ckI_el hf
        refine va_iald hx hb hK hP 4 1 rfl rfl hi_221 dL_same_639 ?_
        refine lv_if_le (tgt := 647) hx hb dL_same_640 (by decide) (fun c_222 => ?_) (fun c_222 => ?_)
        · have hf := x_t c_222 hf
          refine lv_iconst (v := 0) hx hb dL_same_647 (by decide) ?_
          exact hfL_same_J648 z12j 0 _ _ _ hf hP hD hS (lv_sub hl [0, 1, 2, 3, 4, 5, 6, 7, 8, 9] rfl)
        · have hf := x_f c_222 hf
          refine lv_iconst (v := 1) hx hb dL_same_643 (by decide) ?_
          refine lv_goto (tgt := 648) hx hb dL_same_644 (by decide) ?_
          exact hfL_same_J648 z12j 1 _ _ _ hf hP hD hS (lv_sub hl [0, 1, 2, 3, 4, 5, 6, 7, 8, 9] rfl)
      have hfL_same_J581 : ∀ (z12j : Int32) (z13j : Int32) (s0j : Int32) (s1j : Int32) (H : Heap) (locs : List Loc) (ls : Array Slot), fL_same_J581 hh bb Ksz_108 Kcl_109 Kke_110 Hsz Hce Bsz Bce x7_71 x8_72 x10_73 z12j z13j s0j s1j (fL_same_L532 hh bb Ksz_108 Kcl_109 Kke_110 Hsz Hce Bsz Bce x7_71 x8_72 x10_73 n) = some o_532 → va_P D vwCl (wAE cy ye0 ee ++ (wAM cy ym0 mm ++ (wAQ cy yq0 qq ++ (wAH cy yh0 hh ++ (wAB cy yb0 bb ++ wX7 cy a0 t0 t1 k0 k1 k2 s0 s1 s2 s3 s4 s5 s6 s7 s8 s9 s10 s11 hd Xle Xch Xpo Xltr Xfi Xse Xth Ksz_108 Kcl_109 Kke_110 Asz Anu Aba Amo Aco Hsz Hla Hce Bsz Bla Bce Tma Tlc Ttc day lim low hig thr off cre rcp pay sv nx SL))))) H → va_D A (wAE cy ye0 ee ++ (wAM cy ym0 mm ++ (wAQ cy yq0 qq ++ (wAH cy yh0 hh ++ (wAB cy yb0 bb ++ wX7 cy a0 t0 t1 k0 k1 k2 s0 s1 s2 s3 s4 s5 s6 s7 s8 s9 s10 s11 hd Xle Xch Xpo Xltr Xfi Xse Xth Ksz_108 Kcl_109 Kke_110 Asz Anu Aba Amo Aco Hsz Hla Hce Bsz Bla Bce Tma Tlc Ttc day lim low hig thr off cre rcp pay sv nx SL))))) → va_S A s.heap H locs → lv_has ls 20 [(0, .ref a0), (2, .ref ym0), (3, .ref yq0), (4, .ref yh0), (5, .ref yb0), (6, .ref ye0), (7, .int x7_71), (8, .long x8_72), (10, .long x10_73), (12, .int z12j), (13, .int z13j)] → W p l e rmL_same s m ([.ref a0, .int p2, .ref ym0, .ref yq0, .ref yh0, .ref yb0, .ref ye0] : List Value).toArray below meth c H locs 0 0 (MQ below (xQi D cy (wAE cy ye0 ee ++ (wAM cy ym0 mm ++ (wAQ cy yq0 qq ++ (wAH cy yh0 hh ++ (wAB cy yb0 bb ++ wX7 cy a0 t0 t1 k0 k1 k2 s0 s1 s2 s3 s4 s5 s6 s7 s8 s9 s10 s11 hd Xle Xch Xpo Xltr Xfi Xse Xth Ksz' Kcl' Kke' Asz Anu Aba Amo Aco Hsz Hla Hce Bsz Bla Bce Tma Tlc Ttc day lim low hig thr off cre rcp pay sv nx SL))))) r A) ([.ref a0, .int p2, .ref ym0, .ref yq0, .ref yh0, .ref yb0, .ref ye0] : List Value).toArray s 0 0 A) (F0 m 581 ls [.int s0j, .int s1j]) := by
        intro z12j z13j s0j s1j H locs ls hf hP hD hS hl
        unfold fL_same_J581 at hf
        refine lv_icmp_ne (tgt := 631) hx hb dL_same_581 (by decide) (fun c_219 => ?_) (fun c_219 => ?_)
        · have hf := x_f c_219 hf
          refine lv_iconst (v := 0) hx hb dL_same_631 (by decide) ?_
          have hf := Option.some.inj hf
          have hf := (hr_532 _ hf.symm)
          cases hf
          exact x_zret hx hb hr hlocks hK hP hD hS rfl dL_same_632
        · have hf := x_t c_219 hf
          refine lv_iload hx hb dL_same_584 (lv_at hl 10 rfl) ?_
          refine lv_if_eq (tgt := 633) hx hb dL_same_586 (by decide) (fun c_220 => ?_) (fun c_220 => ?_)
          · have hf := x_t c_220 hf
            exact hfL_same_J633 z12j _ _ _ hf hP hD hS (lv_sub hl [0, 1, 2, 3, 4, 5, 6, 7, 8, 9] rfl)
          · have hf := x_f c_220 hf
            refine lv_aload_n hx hb dL_same_589 rfl (lv_at hl 0 rfl) ?_
            refine lv_iload hx hb dL_same_590 (lv_at hl 9 rfl) ?_
            refine lv_iconst (v := 1) hx hb dL_same_592 (by decide) ?_
            refine lv_iadd hx hb dL_same_593 ?_
            refine lv_iconst (v := 1) hx hb dL_same_594 (by decide) ?_
            obtain ⟨r_237, h_238, hf⟩ := bd1_el hf
            refine x_callVi (As := [.int (z12j + 1), .int 1]) (rest := []) ⟨hx, hb, hml, hown, hts⟩ (mX7_holdOf l D cy a0 t0 t1 k0 k1 k2 s0 s1 s2 s3 s4 s5 s6 s7 s8 s9 s10 s11 hd Xle Xch Xpo Xltr Xfi Xse Xth Ksz_108 Kcl_109 Kke_110 Asz Anu Aba Amo Aco Hsz Hla Hce Bsz Bla Bce Tma Tlc Ttc day lim low hig thr off cre rcp pay sv nx SL (z12j + 1) 1 r_237 h_238) (cwV 2 hts (gcV_X7_holdOf hbg wm_21_5) rfl rfl rfl kdX7_holdOf ⟨Nat.le_of_ble_eq_true rfl, Nat.le_of_ble_eq_true rfl⟩) (w1 := wAE cy ye0 ee ++ (wAM cy ym0 mm ++ (wAQ cy yq0 qq ++ (wAH cy yh0 hh ++ (wAB cy yb0 bb))))) (w2 := []) (w' := wAE cy ye0 ee ++ (wAM cy ym0 mm ++ (wAQ cy yq0 qq ++ (wAH cy yh0 hh ++ (wAB cy yb0 bb ++ wX7 cy a0 t0 t1 k0 k1 k2 s0 s1 s2 s3 s4 s5 s6 s7 s8 s9 s10 s11 hd Xle Xch Xpo Xltr Xfi Xse Xth Ksz_108 Kcl_109 Kke_110 Asz Anu Aba Amo Aco Hsz Hla Hce Bsz Bla Bce Tma Tlc Ttc day lim low hig thr off cre rcp pay sv nx SL))))) (by simp only [List.append_assoc, List.append_nil, List.nil_append]) (by simp only [List.append_assoc, List.append_nil, List.nil_append]) hP hK hD hN hS hA (q0 := 0) rfl rfl rfl rfl hl rfl (Nat.le_of_ble_eq_true rfl) dL_same_595 ⟨Nat.zero_le _, Nat.zero_le _⟩ (fun H locs hP hD hS => ?_)
            refine lv_aload hx hb dL_same_598 (lv_at hl 3 rfl) ?_
            refine lv_iconst (v := 3) hx hb dL_same_600 (by decide) ?_
            refine lv_iload hx hb dL_same_601 (lv_at hl 9 rfl) ?_
            refine lv_imul hx hb dL_same_603 ?_
            refine lv_iconst (v := 1) hx hb dL_same_604 (by decide) ?_
            refine lv_iadd hx hb dL_same_605 ?_
            obtain ⟨hi_239, hf⟩ := ckI_el hf
            refine va_iald hx hb hK hP 3 1 rfl rfl hi_239 dL_same_606 ?_
            refine lv_icmp_ne (tgt := 631) hx hb dL_same_607 (by decide) (fun c_240 => ?_) (fun c_240 => ?_)
            · have hf := x_f c_240 hf
              refine lv_iconst (v := 0) hx hb dL_same_631 (by decide) ?_
              have hf := Option.some.inj hf
              have hf := (hr_532 _ hf.symm)
              cases hf
              exact x_zret hx hb hr hlocks hK hP hD hS rfl dL_same_632
            · have hf := x_t c_240 hf
              refine lv_aload_n hx hb dL_same_610 rfl (lv_at hl 0 rfl) ?_
              refine lv_iload hx hb dL_same_611 (lv_at hl 9 rfl) ?_
              refine lv_iconst (v := 1) hx hb dL_same_613 (by decide) ?_
              refine lv_iadd hx hb dL_same_614 ?_
              refine lv_iconst (v := 2) hx hb dL_same_615 (by decide) ?_
              obtain ⟨r_241, h_242, hf⟩ := bd1_el hf
              refine x_callVi (As := [.int (z12j + 1), .int 2]) (rest := []) ⟨hx, hb, hml, hown, hts⟩ (mX7_holdOf l D cy a0 t0 t1 k0 k1 k2 s0 s1 s2 s3 s4 s5 s6 s7 s8 s9 s10 s11 hd Xle Xch Xpo Xltr Xfi Xse Xth Ksz_108 Kcl_109 Kke_110 Asz Anu Aba Amo Aco Hsz Hla Hce Bsz Bla Bce Tma Tlc Ttc day lim low hig thr off cre rcp pay sv nx SL (z12j + 1) 2 r_241 h_242) (cwV 2 hts (gcV_X7_holdOf hbg wm_21_5) rfl rfl rfl kdX7_holdOf ⟨Nat.le_of_ble_eq_true rfl, Nat.le_of_ble_eq_true rfl⟩) (w1 := wAE cy ye0 ee ++ (wAM cy ym0 mm ++ (wAQ cy yq0 qq ++ (wAH cy yh0 hh ++ (wAB cy yb0 bb))))) (w2 := []) (w' := wAE cy ye0 ee ++ (wAM cy ym0 mm ++ (wAQ cy yq0 qq ++ (wAH cy yh0 hh ++ (wAB cy yb0 bb ++ wX7 cy a0 t0 t1 k0 k1 k2 s0 s1 s2 s3 s4 s5 s6 s7 s8 s9 s10 s11 hd Xle Xch Xpo Xltr Xfi Xse Xth Ksz_108 Kcl_109 Kke_110 Asz Anu Aba Amo Aco Hsz Hla Hce Bsz Bla Bce Tma Tlc Ttc day lim low hig thr off cre rcp pay sv nx SL))))) (by simp only [List.append_assoc, List.append_nil, List.nil_append]) (by simp only [List.append_assoc, List.append_nil, List.nil_append]) hP hK hD hN hS hA (q0 := 0) rfl rfl rfl rfl hl rfl (Nat.le_of_ble_eq_true rfl) dL_same_616 ⟨Nat.zero_le _, Nat.zero_le _⟩ (fun H locs hP hD hS => ?_)
              refine lv_aload hx hb dL_same_619 (lv_at hl 3 rfl) ?_
              refine lv_iconst (v := 3) hx hb dL_same_621 (by decide) ?_
              refine lv_iload hx hb dL_same_622 (lv_at hl 9 rfl) ?_
              refine lv_imul hx hb dL_same_624 ?_
              refine lv_iconst (v := 2) hx hb dL_same_625 (by decide) ?_
              refine lv_iadd hx hb dL_same_626 ?_
              obtain ⟨hi_243, hf⟩ := ckI_el hf
              refine va_iald hx hb hK hP 3 1 rfl rfl hi_243 dL_same_627 ?_
              refine lv_icmp_eq (tgt := 633) hx hb dL_same_628 (by decide) (fun c_244 => ?_) (fun c_244 => ?_)
              · have hf := x_t c_244 hf
                exact hfL_same_J633 z12j _ _ _ hf hP hD hS (lv_sub hl [0, 1, 2, 3, 4, 5, 6, 7, 8, 9] rfl)
              · have hf := x_f c_244 hf
                refine lv_iconst (v := 0) hx hb dL_same_631 (by decide) ?_
                have hf := Option.some.inj hf
                have hf := (hr_532 _ hf.symm)
                cases hf
                exact x_zret hx hb hr hlocks hK hP hD hS rfl dL_same_632
      have hfL_same_J554 : ∀ (z12j : Int32) (s0j : Int32) (H : Heap) (locs : List Loc) (ls : Array Slot), fL_same_J554 hh bb Ksz_108 Kcl_109 Kke_110 Hsz Hce Bsz Bce x7_71 x8_72 x10_73 z12j s0j (fL_same_L532 hh bb Ksz_108 Kcl_109 Kke_110 Hsz Hce Bsz Bce x7_71 x8_72 x10_73 n) = some o_532 → va_P D vwCl (wAE cy ye0 ee ++ (wAM cy ym0 mm ++ (wAQ cy yq0 qq ++ (wAH cy yh0 hh ++ (wAB cy yb0 bb ++ wX7 cy a0 t0 t1 k0 k1 k2 s0 s1 s2 s3 s4 s5 s6 s7 s8 s9 s10 s11 hd Xle Xch Xpo Xltr Xfi Xse Xth Ksz_108 Kcl_109 Kke_110 Asz Anu Aba Amo Aco Hsz Hla Hce Bsz Bla Bce Tma Tlc Ttc day lim low hig thr off cre rcp pay sv nx SL))))) H → va_D A (wAE cy ye0 ee ++ (wAM cy ym0 mm ++ (wAQ cy yq0 qq ++ (wAH cy yh0 hh ++ (wAB cy yb0 bb ++ wX7 cy a0 t0 t1 k0 k1 k2 s0 s1 s2 s3 s4 s5 s6 s7 s8 s9 s10 s11 hd Xle Xch Xpo Xltr Xfi Xse Xth Ksz_108 Kcl_109 Kke_110 Asz Anu Aba Amo Aco Hsz Hla Hce Bsz Bla Bce Tma Tlc Ttc day lim low hig thr off cre rcp pay sv nx SL))))) → va_S A s.heap H locs → lv_has ls 20 [(0, .ref a0), (2, .ref ym0), (3, .ref yq0), (4, .ref yh0), (5, .ref yb0), (6, .ref ye0), (7, .int x7_71), (8, .long x8_72), (10, .long x10_73), (12, .int z12j)] → W p l e rmL_same s m ([.ref a0, .int p2, .ref ym0, .ref yq0, .ref yh0, .ref yb0, .ref ye0] : List Value).toArray below meth c H locs 0 0 (MQ below (xQi D cy (wAE cy ye0 ee ++ (wAM cy ym0 mm ++ (wAQ cy yq0 qq ++ (wAH cy yh0 hh ++ (wAB cy yb0 bb ++ wX7 cy a0 t0 t1 k0 k1 k2 s0 s1 s2 s3 s4 s5 s6 s7 s8 s9 s10 s11 hd Xle Xch Xpo Xltr Xfi Xse Xth Ksz' Kcl' Kke' Asz Anu Aba Amo Aco Hsz Hla Hce Bsz Bla Bce Tma Tlc Ttc day lim low hig thr off cre rcp pay sv nx SL))))) r A) ([.ref a0, .int p2, .ref ym0, .ref yq0, .ref yh0, .ref yb0, .ref ye0] : List Value).toArray s 0 0 A) (F0 m 554 ls [.int s0j]) := by
        intro z12j s0j H locs ls hf hP hD hS hl
        unfold fL_same_J554 at hf
        refine lv_istore (lv' := [(13, .int s0j), (0, .ref a0), (2, .ref ym0), (3, .ref yq0), (4, .ref yh0), (5, .ref yb0), (6, .ref ye0), (7, .int x7_71), (8, .long x8_72), (10, .long x10_73), (12, .int z12j)]) hx hb dL_same_554 hl (by decide) rfl (fun ls hl => ?_)
        refine lv_aload_n hx hb dL_same_556 rfl (lv_at hl 1 rfl) ?_
        refine lv_iload hx hb dL_same_557 (lv_at hl 10 rfl) ?_
        refine lv_iconst (v := 1) hx hb dL_same_559 (by decide) ?_
        refine lv_iadd hx hb dL_same_560 ?_
        refine lv_iconst (v := 0) hx hb dL_same_561 (by decide) ?_
        obtain ⟨r_216, h_217, hf⟩ := bd1_el hf
        refine x_callVi (As := [.int (z12j + 1), .int 0]) (rest := []) ⟨hx, hb, hml, hown, hts⟩ (mX7_holdOf l D cy a0 t0 t1 k0 k1 k2 s0 s1 s2 s3 s4 s5 s6 s7 s8 s9 s10 s11 hd Xle Xch Xpo Xltr Xfi Xse Xth Ksz_108 Kcl_109 Kke_110 Asz Anu Aba Amo Aco Hsz Hla Hce Bsz Bla Bce Tma Tlc Ttc day lim low hig thr off cre rcp pay sv nx SL (z12j + 1) 0 r_216 h_217) (cwV 2 hts (gcV_X7_holdOf hbg wm_21_5) rfl rfl rfl kdX7_holdOf ⟨Nat.le_of_ble_eq_true rfl, Nat.le_of_ble_eq_true rfl⟩) (w1 := wAE cy ye0 ee ++ (wAM cy ym0 mm ++ (wAQ cy yq0 qq ++ (wAH cy yh0 hh ++ (wAB cy yb0 bb))))) (w2 := []) (w' := wAE cy ye0 ee ++ (wAM cy ym0 mm ++ (wAQ cy yq0 qq ++ (wAH cy yh0 hh ++ (wAB cy yb0 bb ++ wX7 cy a0 t0 t1 k0 k1 k2 s0 s1 s2 s3 s4 s5 s6 s7 s8 s9 s10 s11 hd Xle Xch Xpo Xltr Xfi Xse Xth Ksz_108 Kcl_109 Kke_110 Asz Anu Aba Amo Aco Hsz Hla Hce Bsz Bla Bce Tma Tlc Ttc day lim low hig thr off cre rcp pay sv nx SL))))) (by simp only [List.append_assoc, List.append_nil, List.nil_append]) (by simp only [List.append_assoc, List.append_nil, List.nil_append]) hP hK hD hN hS hA (q0 := 0) rfl rfl rfl rfl hl rfl (Nat.le_of_ble_eq_true rfl) dL_same_562 ⟨Nat.zero_le _, Nat.zero_le _⟩ (fun H locs hP hD hS => ?_)
        refine lv_iload hx hb dL_same_565 (lv_at hl 0 rfl) ?_
        refine lv_if_eq (tgt := 580) hx hb dL_same_567 (by decide) (fun c_218 => ?_) (fun c_218 => ?_)
        · have hf := x_t c_218 hf
          refine lv_iconst (v := (-1)) hx hb dL_same_580 (by decide) ?_
          exact hfL_same_J581 z12j s0j (-1) r_216 _ _ _ hf hP hD hS (lv_sub hl [1, 2, 3, 4, 5, 6, 7, 8, 9, 10, 0] rfl)
        · have hf := x_f c_218 hf
          refine lv_aload hx hb dL_same_570 (lv_at hl 4 rfl) ?_
          refine lv_iconst (v := 3) hx hb dL_same_572 (by decide) ?_
          refine lv_iload hx hb dL_same_573 (lv_at hl 10 rfl) ?_
          refine lv_imul hx hb dL_same_575 ?_
          obtain ⟨hi_245, hf⟩ := ckI_el hf
          refine va_iald hx hb hK hP 3 1 rfl rfl hi_245 dL_same_576 ?_
          refine lv_goto (tgt := 581) hx hb dL_same_577 (by decide) ?_
          exact hfL_same_J581 z12j s0j (hh (3 * z12j).toNatClampNeg) r_216 _ _ _ hf hP hD hS (lv_sub hl [1, 2, 3, 4, 5, 6, 7, 8, 9, 10, 0] rfl)
      refine lv_iload hx hb dL_same_532 (lv_at hl 9 rfl) ?_
      refine lv_bipush (v := 20) hx hb dL_same_534 (by decide) ?_
      refine lv_icmp_ge (tgt := 733) hx hb dL_same_536 (by decide) (fun c_213 => ?_) (fun c_213 => ?_)
      · have hf := x_t c_213 hf
        exact kx_532 (Option.some.inj hf).symm _ _ _ hP hD hS (lv_sub hl [0, 1, 2, 5, 6, 7, 8] rfl)
      · have hf := x_f c_213 hf
        refine lv_aload hx hb dL_same_539 (lv_at hl 3 rfl) ?_
        refine lv_iconst (v := 3) hx hb dL_same_541 (by decide) ?_
        refine lv_iload hx hb dL_same_542 (lv_at hl 9 rfl) ?_
        refine lv_imul hx hb dL_same_544 ?_
        obtain ⟨hi_214, hf⟩ := ckI_el hf
        refine va_iald hx hb hK hP 3 1 rfl rfl hi_214 dL_same_545 ?_
        refine lv_if_le (tgt := 553) hx hb dL_same_546 (by decide) (fun c_215 => ?_) (fun c_215 => ?_)
        · have hf := x_t c_215 hf
          refine lv_iconst (v := 0) hx hb dL_same_553 (by decide) ?_
          exact hfL_same_J554 z12_212 0 _ _ _ hf hP hD hS (lv_sub hl [0, 1, 2, 3, 4, 5, 6, 7, 8, 9] rfl)
        · have hf := x_f c_215 hf
          refine lv_iconst (v := 1) hx hb dL_same_549 (by decide) ?_
          refine lv_goto (tgt := 554) hx hb dL_same_550 (by decide) ?_
          exact hfL_same_J554 z12_212 1 _ _ _ hf hP hD hS (lv_sub hl [0, 1, 2, 3, 4, 5, 6, 7, 8, 9] rfl)
  obtain ⟨o_532, h1_532, hr_532, hf⟩ := bs0_el hf
  refine hL_532 2147483648 0 o_532 _ _ _ h1_532 hP hD hS (lv_sub hl [1, 2, 3, 4, 5, 6, 7, 8, 9, 0] rfl) hr_532 (fun  ho H locs ls hP hD hS hl => ?_)
  have hf := hf () ho
  refine lv_aload_n hx hb dL_same_733 rfl (lv_at hl 2 rfl) ?_
  refine lv_iconst (v := 5) hx hb dL_same_734 (by decide) ?_
  obtain ⟨hi_144, hf⟩ := ckI_el hf
  refine va_iald hx hb hK hP 2 1 rfl rfl hi_144 dL_same_735 ?_
  obtain ⟨x12_145, ex12_145, hf⟩ := lt_el hf
  refine x_topi ex12_145 ?_
  refine lv_istore (lv' := [(12, .int x12_145), (0, .ref a0), (2, .ref ym0), (3, .ref yq0), (6, .ref ye0), (7, .int x7_71), (8, .long x8_72), (10, .long x10_73)]) hx hb dL_same_736 hl (by decide) rfl (fun ls hl => ?_)
  have hL_738 : ∀ (n : Nat) (z12_202 : Int32) (o : (Int32 × Int32 × (Nat → Int32) × (Nat → Int32)) ⊕ (Unit)) (H : Heap) (locs : List Loc) (ls : Array Slot), fL_same_L738 ee qq Ksz_108 Kcl_109 Kke_110 Tma Ttc x7_71 x8_72 x10_73 n z12_202 = some o → va_P D vwCl (wAE cy ye0 ee ++ (wAM cy ym0 mm ++ (wAQ cy yq0 qq ++ (wAH cy yh0 hh ++ (wAB cy yb0 bb ++ wX7 cy a0 t0 t1 k0 k1 k2 s0 s1 s2 s3 s4 s5 s6 s7 s8 s9 s10 s11 hd Xle Xch Xpo Xltr Xfi Xse Xth Ksz_108 Kcl_109 Kke_110 Asz Anu Aba Amo Aco Hsz Hla Hce Bsz Bla Bce Tma Tlc Ttc day lim low hig thr off cre rcp pay sv nx SL))))) H → va_D A (wAE cy ye0 ee ++ (wAM cy ym0 mm ++ (wAQ cy yq0 qq ++ (wAH cy yh0 hh ++ (wAB cy yb0 bb ++ wX7 cy a0 t0 t1 k0 k1 k2 s0 s1 s2 s3 s4 s5 s6 s7 s8 s9 s10 s11 hd Xle Xch Xpo Xltr Xfi Xse Xth Ksz_108 Kcl_109 Kke_110 Asz Anu Aba Amo Aco Hsz Hla Hce Bsz Bla Bce Tma Tlc Ttc day lim low hig thr off cre rcp pay sv nx SL))))) → va_S A s.heap H locs → lv_has ls 20 [(0, .ref a0), (2, .ref ym0), (3, .ref yq0), (6, .ref ye0), (7, .int x7_71), (8, .long x8_72), (10, .long x10_73), (12, .int z12_202)] → (∀ r', o = .inl r' → r' = (r, Ksz', Kcl', Kke')) → ((o = (.inr ()) → ∀ (H : Heap) (locs : List Loc) (ls : Array Slot), va_P D vwCl (wAE cy ye0 ee ++ (wAM cy ym0 mm ++ (wAQ cy yq0 qq ++ (wAH cy yh0 hh ++ (wAB cy yb0 bb ++ wX7 cy a0 t0 t1 k0 k1 k2 s0 s1 s2 s3 s4 s5 s6 s7 s8 s9 s10 s11 hd Xle Xch Xpo Xltr Xfi Xse Xth Ksz_108 Kcl_109 Kke_110 Asz Anu Aba Amo Aco Hsz Hla Hce Bsz Bla Bce Tma Tlc Ttc day lim low hig thr off cre rcp pay sv nx SL))))) H → va_D A (wAE cy ye0 ee ++ (wAM cy ym0 mm ++ (wAQ cy yq0 qq ++ (wAH cy yh0 hh ++ (wAB cy yb0 bb ++ wX7 cy a0 t0 t1 k0 k1 k2 s0 s1 s2 s3 s4 s5 s6 s7 s8 s9 s10 s11 hd Xle Xch Xpo Xltr Xfi Xse Xth Ksz_108 Kcl_109 Kke_110 Asz Anu Aba Amo Aco Hsz Hla Hce Bsz Bla Bce Tma Tlc Ttc day lim low hig thr off cre rcp pay sv nx SL))))) → va_S A s.heap H locs → lv_has ls 20 [(0, .ref a0), (2, .ref ym0), (3, .ref yq0), (7, .int x7_71), (8, .long x8_72), (10, .long x10_73)] →  W p l e rmL_same s m ([.ref a0, .int p2, .ref ym0, .ref yq0, .ref yh0, .ref yb0, .ref ye0] : List Value).toArray below meth c H locs 0 0 (MQ below (xQi D cy (wAE cy ye0 ee ++ (wAM cy ym0 mm ++ (wAQ cy yq0 qq ++ (wAH cy yh0 hh ++ (wAB cy yb0 bb ++ wX7 cy a0 t0 t1 k0 k1 k2 s0 s1 s2 s3 s4 s5 s6 s7 s8 s9 s10 s11 hd Xle Xch Xpo Xltr Xfi Xse Xth Ksz' Kcl' Kke' Asz Anu Aba Amo Aco Hsz Hla Hce Bsz Bla Bce Tma Tlc Ttc day lim low hig thr off cre rcp pay sv nx SL))))) r A) ([.ref a0, .int p2, .ref ym0, .ref yq0, .ref yh0, .ref yb0, .ref ye0] : List Value).toArray s 0 0 A) (F0 m 803 ls []))) → W p l e rmL_same s m ([.ref a0, .int p2, .ref ym0, .ref yq0, .ref yh0, .ref yb0, .ref ye0] : List Value).toArray below meth c H locs 0 0 (MQ below (xQi D cy (wAE cy ye0 ee ++ (wAM cy ym0 mm ++ (wAQ cy yq0 qq ++ (wAH cy yh0 hh ++ (wAB cy yb0 bb ++ wX7 cy a0 t0 t1 k0 k1 k2 s0 s1 s2 s3 s4 s5 s6 s7 s8 s9 s10 s11 hd Xle Xch Xpo Xltr Xfi Xse Xth Ksz' Kcl' Kke' Asz Anu Aba Amo Aco Hsz Hla Hce Bsz Bla Bce Tma Tlc Ttc day lim low hig thr off cre rcp pay sv nx SL))))) r A) ([.ref a0, .int p2, .ref ym0, .ref yq0, .ref yh0, .ref yb0, .ref ye0] : List Value).toArray s 0 0 A) (F0 m 738 ls []) := by
    intro n
    induction n with
    | zero =>
      intro z12_202 o_738 H locs ls hf
      rw [fL_same_L738] at hf
      cases hf
    | succ n ih =>
      intro z12_202 o_738 H locs ls hf hP hD hS hl hr_738 kx_738
      rw [fL_same_L738] at hf
      refine lv_iload hx hb dL_same_738 (lv_at hl 7 rfl) ?_
      refine lv_if_le (tgt := 803) hx hb dL_same_740 (by decide) (fun c_203 => ?_) (fun c_203 => ?_)
      · have hf := x_t c_203 hf
        exact kx_738 (Option.some.inj hf).symm _ _ _ hP hD hS (lv_sub hl [0, 1, 2, 4, 5, 6] rfl)
      · have hf := x_f c_203 hf
        refine lv_iload hx hb dL_same_743 (lv_at hl 7 rfl) ?_
        refine lv_aload_n hx hb dL_same_745 rfl (lv_at hl 2 rfl) ?_
        refine lv_iconst (v := 5) hx hb dL_same_746 (by decide) ?_
        obtain ⟨hi_204, hf⟩ := ckI_el hf
        refine va_iald hx hb hK hP 2 1 rfl rfl hi_204 dL_same_747 ?_
        refine lv_bipush (v := 9) hx hb dL_same_748 (by decide) ?_
        refine lv_isub hx hb dL_same_750 ?_
        refine lv_icmp_le (tgt := 803) hx hb dL_same_751 (by decide) (fun c_205 => ?_) (fun c_205 => ?_)
        · have hf := x_t c_205 hf
          exact kx_738 (Option.some.inj hf).symm _ _ _ hP hD hS (lv_sub hl [0, 1, 2, 4, 5, 6] rfl)
        · have hf := x_f c_205 hf
          refine lv_iconst (v := 0) hx hb dL_same_754 (by decide) ?_
          refine lv_istore (lv' := [(13, .int 0), (0, .ref a0), (2, .ref ym0), (3, .ref yq0), (6, .ref ye0), (7, .int x7_71), (8, .long x8_72), (10, .long x10_73), (12, .int z12_202)]) hx hb dL_same_755 hl (by decide) rfl (fun ls hl => ?_)
          have hL_757 : ∀ (n : Nat) (z13_206 : Int32) (o : ((Int32 × Int32 × (Nat → Int32) × (Nat → Int32)) ⊕ (Unit)) ⊕ (Unit)) (H : Heap) (locs : List Loc) (ls : Array Slot), fL_same_L757 ee Ksz_108 Kcl_109 Kke_110 Tma Ttc x7_71 x8_72 x10_73 z12_202 n z13_206 = some o → va_P D vwCl (wAE cy ye0 ee ++ (wAM cy ym0 mm ++ (wAQ cy yq0 qq ++ (wAH cy yh0 hh ++ (wAB cy yb0 bb ++ wX7 cy a0 t0 t1 k0 k1 k2 s0 s1 s2 s3 s4 s5 s6 s7 s8 s9 s10 s11 hd Xle Xch Xpo Xltr Xfi Xse Xth Ksz_108 Kcl_109 Kke_110 Asz Anu Aba Amo Aco Hsz Hla Hce Bsz Bla Bce Tma Tlc Ttc day lim low hig thr off cre rcp pay sv nx SL))))) H → va_D A (wAE cy ye0 ee ++ (wAM cy ym0 mm ++ (wAQ cy yq0 qq ++ (wAH cy yh0 hh ++ (wAB cy yb0 bb ++ wX7 cy a0 t0 t1 k0 k1 k2 s0 s1 s2 s3 s4 s5 s6 s7 s8 s9 s10 s11 hd Xle Xch Xpo Xltr Xfi Xse Xth Ksz_108 Kcl_109 Kke_110 Asz Anu Aba Amo Aco Hsz Hla Hce Bsz Bla Bce Tma Tlc Ttc day lim low hig thr off cre rcp pay sv nx SL))))) → va_S A s.heap H locs → lv_has ls 20 [(0, .ref a0), (2, .ref ym0), (3, .ref yq0), (6, .ref ye0), (7, .int x7_71), (8, .long x8_72), (10, .long x10_73), (12, .int z12_202), (13, .int z13_206)] → (∀ r', o = .inl r' → r' = o_738) → ((o = (.inr ()) → ∀ (H : Heap) (locs : List Loc) (ls : Array Slot), va_P D vwCl (wAE cy ye0 ee ++ (wAM cy ym0 mm ++ (wAQ cy yq0 qq ++ (wAH cy yh0 hh ++ (wAB cy yb0 bb ++ wX7 cy a0 t0 t1 k0 k1 k2 s0 s1 s2 s3 s4 s5 s6 s7 s8 s9 s10 s11 hd Xle Xch Xpo Xltr Xfi Xse Xth Ksz_108 Kcl_109 Kke_110 Asz Anu Aba Amo Aco Hsz Hla Hce Bsz Bla Bce Tma Tlc Ttc day lim low hig thr off cre rcp pay sv nx SL))))) H → va_D A (wAE cy ye0 ee ++ (wAM cy ym0 mm ++ (wAQ cy yq0 qq ++ (wAH cy yh0 hh ++ (wAB cy yb0 bb ++ wX7 cy a0 t0 t1 k0 k1 k2 s0 s1 s2 s3 s4 s5 s6 s7 s8 s9 s10 s11 hd Xle Xch Xpo Xltr Xfi Xse Xth Ksz_108 Kcl_109 Kke_110 Asz Anu Aba Amo Aco Hsz Hla Hce Bsz Bla Bce Tma Tlc Ttc day lim low hig thr off cre rcp pay sv nx SL))))) → va_S A s.heap H locs → lv_has ls 20 [(0, .ref a0), (2, .ref ym0), (3, .ref yq0), (6, .ref ye0), (7, .int x7_71), (8, .long x8_72), (10, .long x10_73), (12, .int z12_202)] →  W p l e rmL_same s m ([.ref a0, .int p2, .ref ym0, .ref yq0, .ref yh0, .ref yb0, .ref ye0] : List Value).toArray below meth c H locs 0 0 (MQ below (xQi D cy (wAE cy ye0 ee ++ (wAM cy ym0 mm ++ (wAQ cy yq0 qq ++ (wAH cy yh0 hh ++ (wAB cy yb0 bb ++ wX7 cy a0 t0 t1 k0 k1 k2 s0 s1 s2 s3 s4 s5 s6 s7 s8 s9 s10 s11 hd Xle Xch Xpo Xltr Xfi Xse Xth Ksz' Kcl' Kke' Asz Anu Aba Amo Aco Hsz Hla Hce Bsz Bla Bce Tma Tlc Ttc day lim low hig thr off cre rcp pay sv nx SL))))) r A) ([.ref a0, .int p2, .ref ym0, .ref yq0, .ref yh0, .ref yb0, .ref ye0] : List Value).toArray s 0 0 A) (F0 m 797 ls []))) → W p l e rmL_same s m ([.ref a0, .int p2, .ref ym0, .ref yq0, .ref yh0, .ref yb0, .ref ye0] : List Value).toArray below meth c H locs 0 0 (MQ below (xQi D cy (wAE cy ye0 ee ++ (wAM cy ym0 mm ++ (wAQ cy yq0 qq ++ (wAH cy yh0 hh ++ (wAB cy yb0 bb ++ wX7 cy a0 t0 t1 k0 k1 k2 s0 s1 s2 s3 s4 s5 s6 s7 s8 s9 s10 s11 hd Xle Xch Xpo Xltr Xfi Xse Xth Ksz' Kcl' Kke' Asz Anu Aba Amo Aco Hsz Hla Hce Bsz Bla Bce Tma Tlc Ttc day lim low hig thr off cre rcp pay sv nx SL))))) r A) ([.ref a0, .int p2, .ref ym0, .ref yq0, .ref yh0, .ref yb0, .ref ye0] : List Value).toArray s 0 0 A) (F0 m 757 ls []) := by
            intro n
            induction n with
            | zero =>
              intro z13_206 o_757 H locs ls hf
              rw [fL_same_L757] at hf
              cases hf
            | succ n ih =>
              intro z13_206 o_757 H locs ls hf hP hD hS hl hr_757 kx_757
              rw [fL_same_L757] at hf
              refine lv_iload hx hb dL_same_757 (lv_at hl 8 rfl) ?_
              refine lv_bipush (v := 6) hx hb dL_same_759 (by decide) ?_
              refine lv_icmp_ge (tgt := 797) hx hb dL_same_761 (by decide) (fun c_207 => ?_) (fun c_207 => ?_)
              · have hf := x_t c_207 hf
                exact kx_757 (Option.some.inj hf).symm _ _ _ hP hD hS (lv_sub hl [0, 1, 2, 3, 4, 5, 6, 7] rfl)
              · have hf := x_f c_207 hf
                refine lv_aload_n hx hb dL_same_764 rfl (lv_at hl 0 rfl) ?_
                refine lv_iload hx hb dL_same_765 (lv_at hl 7 rfl) ?_
                refine lv_iload hx hb dL_same_767 (lv_at hl 8 rfl) ?_
                obtain ⟨r_208, h_209, hf⟩ := bd1_el hf
                refine x_callVi (As := [.int z12_202, .int z13_206]) (rest := []) ⟨hx, hb, hml, hown, hts⟩ (mX7_entry l D cy a0 t0 t1 k0 k1 k2 s0 s1 s2 s3 s4 s5 s6 s7 s8 s9 s10 s11 hd Xle Xch Xpo Xltr Xfi Xse Xth Ksz_108 Kcl_109 Kke_110 Asz Anu Aba Amo Aco Hsz Hla Hce Bsz Bla Bce Tma Tlc Ttc day lim low hig thr off cre rcp pay sv nx SL z12_202 z13_206 r_208 h_209) (cwV 2 hts (gcV_X7_entry hbg wm_18_15) rfl rfl rfl kdX7_entry ⟨Nat.le_of_ble_eq_true rfl, Nat.le_of_ble_eq_true rfl⟩) (w1 := wAE cy ye0 ee ++ (wAM cy ym0 mm ++ (wAQ cy yq0 qq ++ (wAH cy yh0 hh ++ (wAB cy yb0 bb))))) (w2 := []) (w' := wAE cy ye0 ee ++ (wAM cy ym0 mm ++ (wAQ cy yq0 qq ++ (wAH cy yh0 hh ++ (wAB cy yb0 bb ++ wX7 cy a0 t0 t1 k0 k1 k2 s0 s1 s2 s3 s4 s5 s6 s7 s8 s9 s10 s11 hd Xle Xch Xpo Xltr Xfi Xse Xth Ksz_108 Kcl_109 Kke_110 Asz Anu Aba Amo Aco Hsz Hla Hce Bsz Bla Bce Tma Tlc Ttc day lim low hig thr off cre rcp pay sv nx SL))))) (by simp only [List.append_assoc, List.append_nil, List.nil_append]) (by simp only [List.append_assoc, List.append_nil, List.nil_append]) hP hK hD hN hS hA (q0 := 0) rfl rfl rfl rfl hl rfl (Nat.le_of_ble_eq_true rfl) dL_same_769 ⟨Nat.zero_le _, Nat.zero_le _⟩ (fun H locs hP hD hS => ?_)
                refine lv_aload hx hb dL_same_772 (lv_at hl 3 rfl) ?_
                refine lv_bipush (v := 6) hx hb dL_same_774 (by decide) ?_
                refine lv_iload hx hb dL_same_776 (lv_at hl 7 rfl) ?_
                refine lv_bipush (v := 10) hx hb dL_same_778 (by decide) ?_
                refine lv_irem hx hb dL_same_780 (by decide) ?_
                refine lv_imul hx hb dL_same_781 ?_
                refine lv_iload hx hb dL_same_782 (lv_at hl 8 rfl) ?_
                refine lv_iadd hx hb dL_same_784 ?_
                obtain ⟨hi_210, hf⟩ := ckI_el hf
                refine va_iald hx hb hK hP 0 1 rfl rfl hi_210 dL_same_785 ?_
                refine lv_icmp_eq (tgt := 791) hx hb dL_same_786 (by decide) (fun c_211 => ?_) (fun c_211 => ?_)
                · have hf := x_t c_211 hf
                  refine lv_iinc (v := (z13_206 + 1)) (lv' := [(13, .int (z13_206 + 1)), (0, .ref a0), (2, .ref ym0), (3, .ref yq0), (6, .ref ye0), (7, .int x7_71), (8, .long x8_72), (10, .long x10_73), (12, .int z12_202)]) hx hb dL_same_791 hl (k := 8) rfl rfl (by decide) rfl (fun ls hl => ?_)
                  refine lv_goto (tgt := 757) hx hb dL_same_794 (by decide) ?_
                  exact ih (z13_206 + 1) _ _ _ _ hf hP hD hS (lv_sub hl [1, 2, 3, 4, 5, 6, 7, 8, 0] rfl) hr_757 kx_757
                · have hf := x_f c_211 hf
                  refine lv_iconst (v := 0) hx hb dL_same_789 (by decide) ?_
                  have hf := Option.some.inj hf
                  have hf := (hr_757 _ hf.symm)
                  have hf := (hr_738 _ hf.symm)
                  cases hf
                  exact x_zret hx hb hr hlocks hK hP hD hS rfl dL_same_790
          obtain ⟨o_757, h1_757, hr_757, hf⟩ := bs0_el hf
          refine hL_757 2147483648 0 o_757 _ _ _ h1_757 hP hD hS (lv_sub hl [1, 2, 3, 4, 5, 6, 7, 8, 0] rfl) hr_757 (fun  ho H locs ls hP hD hS hl => ?_)
          have hf := hf () ho
          refine lv_iinc (v := (z12_202 + (-1))) (lv' := [(12, .int (z12_202 + (-1))), (0, .ref a0), (2, .ref ym0), (3, .ref yq0), (6, .ref ye0), (7, .int x7_71), (8, .long x8_72), (10, .long x10_73)]) hx hb dL_same_797 hl (k := 7) rfl rfl (by decide) rfl (fun ls hl => ?_)
          refine lv_goto (tgt := 738) hx hb dL_same_800 (by decide) ?_
          exact ih (z12_202 + (-1)) _ _ _ _ hf hP hD hS (lv_sub hl [1, 2, 3, 4, 5, 6, 7, 0] rfl) hr_738 kx_738
  obtain ⟨o_738, h1_738, hr_738, hf⟩ := bs0_el hf
  refine hL_738 2147483648 x12_145 o_738 _ _ _ h1_738 hP hD hS (lv_sub hl [1, 2, 3, 4, 5, 6, 7, 0] rfl) hr_738 (fun  ho H locs ls hP hD hS hl => ?_)
  have hf := hf () ho
  refine lv_aload_n hx hb dL_same_803 rfl (lv_at hl 0 rfl) ?_
  obtain ⟨r_154, h_155, hf⟩ := bd1_el hf
  refine x_callVi (As := []) (rest := []) ⟨hx, hb, hml, hown, hts⟩ (mX7_day l D cy a0 t0 t1 k0 k1 k2 s0 s1 s2 s3 s4 s5 s6 s7 s8 s9 s10 s11 hd Xle Xch Xpo Xltr Xfi Xse Xth Ksz_108 Kcl_109 Kke_110 Asz Anu Aba Amo Aco Hsz Hla Hce Bsz Bla Bce Tma Tlc Ttc day lim low hig thr off cre rcp pay sv nx SL  r_154 h_155) (cwV 0 hts (gcV_X7_day hbg wm_21_20) rfl rfl rfl kdX7_day ⟨Nat.le_of_ble_eq_true rfl, Nat.le_of_ble_eq_true rfl⟩) (w1 := wAE cy ye0 ee ++ (wAM cy ym0 mm ++ (wAQ cy yq0 qq ++ (wAH cy yh0 hh ++ (wAB cy yb0 bb))))) (w2 := []) (w' := wAE cy ye0 ee ++ (wAM cy ym0 mm ++ (wAQ cy yq0 qq ++ (wAH cy yh0 hh ++ (wAB cy yb0 bb ++ wX7 cy a0 t0 t1 k0 k1 k2 s0 s1 s2 s3 s4 s5 s6 s7 s8 s9 s10 s11 hd Xle Xch Xpo Xltr Xfi Xse Xth Ksz_108 Kcl_109 Kke_110 Asz Anu Aba Amo Aco Hsz Hla Hce Bsz Bla Bce Tma Tlc Ttc day lim low hig thr off cre rcp pay sv nx SL))))) (by simp only [List.append_assoc, List.append_nil, List.nil_append]) (by simp only [List.append_assoc, List.append_nil, List.nil_append]) hP hK hD hN hS hA (q0 := 0) rfl rfl rfl rfl hl rfl (Nat.le_of_ble_eq_true rfl) dL_same_804 ⟨Nat.zero_le _, Nat.zero_le _⟩ (fun H locs hP hD hS => ?_)
  refine lv_aload_n hx hb dL_same_807 rfl (lv_at hl 2 rfl) ?_
  refine lv_iconst (v := 0) hx hb dL_same_808 (by decide) ?_
  obtain ⟨hi_156, hf⟩ := ckI_el hf
  refine va_iald hx hb hK hP 2 1 rfl rfl hi_156 dL_same_809 ?_
  refine lv_icmp_ne (tgt := 960) hx hb dL_same_810 (by decide) (fun c_157 => ?_) (fun c_157 => ?_)
  · have hf := x_f c_157 hf
    refine lv_iconst (v := 0) hx hb dL_same_960 (by decide) ?_
    have hf := Option.some.inj hf
    cases hf
    exact x_zret hx hb hr hlocks hK hP hD hS rfl dL_same_961
  · have hf := x_t c_157 hf
    refine lv_aload_n hx hb dL_same_813 rfl (lv_at hl 0 rfl) ?_
    obtain ⟨r_158, h_159, hf⟩ := bd1_el hf
    refine x_callVi (As := []) (rest := []) ⟨hx, hb, hml, hown, hts⟩ (mX7_clients l D cy a0 t0 t1 k0 k1 k2 s0 s1 s2 s3 s4 s5 s6 s7 s8 s9 s10 s11 hd Xle Xch Xpo Xltr Xfi Xse Xth Ksz_108 Kcl_109 Kke_110 Asz Anu Aba Amo Aco Hsz Hla Hce Bsz Bla Bce Tma Tlc Ttc day lim low hig thr off cre rcp pay sv nx SL  r_158 h_159) (cwV 0 hts (gcV_X7_clients hbg wm_22_1) rfl rfl rfl kdX7_clients ⟨Nat.le_of_ble_eq_true rfl, Nat.le_of_ble_eq_true rfl⟩) (w1 := wAE cy ye0 ee ++ (wAM cy ym0 mm ++ (wAQ cy yq0 qq ++ (wAH cy yh0 hh ++ (wAB cy yb0 bb))))) (w2 := []) (w' := wAE cy ye0 ee ++ (wAM cy ym0 mm ++ (wAQ cy yq0 qq ++ (wAH cy yh0 hh ++ (wAB cy yb0 bb ++ wX7 cy a0 t0 t1 k0 k1 k2 s0 s1 s2 s3 s4 s5 s6 s7 s8 s9 s10 s11 hd Xle Xch Xpo Xltr Xfi Xse Xth Ksz_108 Kcl_109 Kke_110 Asz Anu Aba Amo Aco Hsz Hla Hce Bsz Bla Bce Tma Tlc Ttc day lim low hig thr off cre rcp pay sv nx SL))))) (by simp only [List.append_assoc, List.append_nil, List.nil_append]) (by simp only [List.append_assoc, List.append_nil, List.nil_append]) hP hK hD hN hS hA (q0 := 0) rfl rfl rfl rfl hl rfl (Nat.le_of_ble_eq_true rfl) dL_same_814 ⟨Nat.zero_le _, Nat.zero_le _⟩ (fun H locs hP hD hS => ?_)
    refine lv_iload hx hb dL_same_817 (lv_at hl 3 rfl) ?_
    refine lv_icmp_ne (tgt := 960) hx hb dL_same_819 (by decide) (fun c_160 => ?_) (fun c_160 => ?_)
    · have hf := x_f c_160 hf
      refine lv_iconst (v := 0) hx hb dL_same_960 (by decide) ?_
      have hf := Option.some.inj hf
      cases hf
      exact x_zret hx hb hr hlocks hK hP hD hS rfl dL_same_961
    · have hf := x_t c_160 hf
      refine lv_aload_n hx hb dL_same_822 rfl (lv_at hl 0 rfl) ?_
      obtain ⟨r_161, h_162, hf⟩ := bd1_el hf
      refine x_callVi (As := []) (rest := []) ⟨hx, hb, hml, hown, hts⟩ (mX7_entries l D cy a0 t0 t1 k0 k1 k2 s0 s1 s2 s3 s4 s5 s6 s7 s8 s9 s10 s11 hd Xle Xch Xpo Xltr Xfi Xse Xth Ksz_108 Kcl_109 Kke_110 Asz Anu Aba Amo Aco Hsz Hla Hce Bsz Bla Bce Tma Tlc Ttc day lim low hig thr off cre rcp pay sv nx SL  r_161 h_162) (cwV 0 hts (gcV_X7_entries hbg wm_22_5) rfl rfl rfl kdX7_entries ⟨Nat.le_of_ble_eq_true rfl, Nat.le_of_ble_eq_true rfl⟩) (w1 := wAE cy ye0 ee ++ (wAM cy ym0 mm ++ (wAQ cy yq0 qq ++ (wAH cy yh0 hh ++ (wAB cy yb0 bb))))) (w2 := []) (w' := wAE cy ye0 ee ++ (wAM cy ym0 mm ++ (wAQ cy yq0 qq ++ (wAH cy yh0 hh ++ (wAB cy yb0 bb ++ wX7 cy a0 t0 t1 k0 k1 k2 s0 s1 s2 s3 s4 s5 s6 s7 s8 s9 s10 s11 hd Xle Xch Xpo Xltr Xfi Xse Xth Ksz_108 Kcl_109 Kke_110 Asz Anu Aba Amo Aco Hsz Hla Hce Bsz Bla Bce Tma Tlc Ttc day lim low hig thr off cre rcp pay sv nx SL))))) (by simp only [List.append_assoc, List.append_nil, List.nil_append]) (by simp only [List.append_assoc, List.append_nil, List.nil_append]) hP hK hD hN hS hA (q0 := 0) rfl rfl rfl rfl hl rfl (Nat.le_of_ble_eq_true rfl) dL_same_823 ⟨Nat.zero_le _, Nat.zero_le _⟩ (fun H locs hP hD hS => ?_)
      refine lv_aload_n hx hb dL_same_826 rfl (lv_at hl 2 rfl) ?_
      refine lv_iconst (v := 5) hx hb dL_same_827 (by decide) ?_
      obtain ⟨hi_163, hf⟩ := ckI_el hf
      refine va_iald hx hb hK hP 2 1 rfl rfl hi_163 dL_same_828 ?_
      refine lv_icmp_ne (tgt := 960) hx hb dL_same_829 (by decide) (fun c_164 => ?_) (fun c_164 => ?_)
      · have hf := x_f c_164 hf
        refine lv_iconst (v := 0) hx hb dL_same_960 (by decide) ?_
        have hf := Option.some.inj hf
        cases hf
        exact x_zret hx hb hr hlocks hK hP hD hS rfl dL_same_961
      · have hf := x_t c_164 hf
        refine lv_aload_n hx hb dL_same_832 rfl (lv_at hl 0 rfl) ?_
        refine lv_iconst (v := 0) hx hb dL_same_833 (by decide) ?_
        obtain ⟨r_165, h_166, hf⟩ := bd1_el hf
        refine x_callVl (As := [.int 0]) (rest := []) ⟨hx, hb, hml, hown, hts⟩ (mX7_sum l D cy a0 t0 t1 k0 k1 k2 s0 s1 s2 s3 s4 s5 s6 s7 s8 s9 s10 s11 hd Xle Xch Xpo Xltr Xfi Xse Xth Ksz_108 Kcl_109 Kke_110 Asz Anu Aba Amo Aco Hsz Hla Hce Bsz Bla Bce Tma Tlc Ttc day lim low hig thr off cre rcp pay sv nx SL 0 r_165 h_166) (cwV 1 hts (gcV_X7_sum hbg wm_22_10) rfl rfl rfl kdX7_sum ⟨Nat.le_of_ble_eq_true rfl, Nat.le_of_ble_eq_true rfl⟩) (w1 := wAE cy ye0 ee ++ (wAM cy ym0 mm ++ (wAQ cy yq0 qq ++ (wAH cy yh0 hh ++ (wAB cy yb0 bb))))) (w2 := []) (w' := wAE cy ye0 ee ++ (wAM cy ym0 mm ++ (wAQ cy yq0 qq ++ (wAH cy yh0 hh ++ (wAB cy yb0 bb ++ wX7 cy a0 t0 t1 k0 k1 k2 s0 s1 s2 s3 s4 s5 s6 s7 s8 s9 s10 s11 hd Xle Xch Xpo Xltr Xfi Xse Xth Ksz_108 Kcl_109 Kke_110 Asz Anu Aba Amo Aco Hsz Hla Hce Bsz Bla Bce Tma Tlc Ttc day lim low hig thr off cre rcp pay sv nx SL))))) (by simp only [List.append_assoc, List.append_nil, List.nil_append]) (by simp only [List.append_assoc, List.append_nil, List.nil_append]) hP hK hD hN hS hA (q0 := 0) rfl rfl rfl rfl hl rfl (Nat.le_of_ble_eq_true rfl) dL_same_834 ⟨Nat.zero_le _, Nat.zero_le _⟩ (fun H locs hP hD hS => ?_)
        refine lv_lload hx hb dL_same_837 (lv_at hl 4 rfl) ?_
        refine W.lcmp hx hb dL_same_839 ?_
        refine lv_if_ne (tgt := 960) hx hb dL_same_840 (by decide) (fun c_167 => ?_) (fun c_167 => ?_)
        · have c_167 := fun q => c_167 ((lg_cmp_eq _ _).mpr q)
          have hf := x_f c_167 hf
          refine lv_iconst (v := 0) hx hb dL_same_960 (by decide) ?_
          have hf := Option.some.inj hf
          cases hf
          exact x_zret hx hb hr hlocks hK hP hD hS rfl dL_same_961
        · have c_167 := (lg_cmp_eq _ _).mp c_167
          have hf := x_t c_167 hf
          refine lv_aload_n hx hb dL_same_843 rfl (lv_at hl 0 rfl) ?_
          refine lv_iconst (v := 1) hx hb dL_same_844 (by decide) ?_
          obtain ⟨r_168, h_169, hf⟩ := bd1_el hf
          refine x_callVl (As := [.int 1]) (rest := []) ⟨hx, hb, hml, hown, hts⟩ (mX7_sum l D cy a0 t0 t1 k0 k1 k2 s0 s1 s2 s3 s4 s5 s6 s7 s8 s9 s10 s11 hd Xle Xch Xpo Xltr Xfi Xse Xth Ksz_108 Kcl_109 Kke_110 Asz Anu Aba Amo Aco Hsz Hla Hce Bsz Bla Bce Tma Tlc Ttc day lim low hig thr off cre rcp pay sv nx SL 1 r_168 h_169) (cwV 1 hts (gcV_X7_sum hbg wm_22_10) rfl rfl rfl kdX7_sum ⟨Nat.le_of_ble_eq_true rfl, Nat.le_of_ble_eq_true rfl⟩) (w1 := wAE cy ye0 ee ++ (wAM cy ym0 mm ++ (wAQ cy yq0 qq ++ (wAH cy yh0 hh ++ (wAB cy yb0 bb))))) (w2 := []) (w' := wAE cy ye0 ee ++ (wAM cy ym0 mm ++ (wAQ cy yq0 qq ++ (wAH cy yh0 hh ++ (wAB cy yb0 bb ++ wX7 cy a0 t0 t1 k0 k1 k2 s0 s1 s2 s3 s4 s5 s6 s7 s8 s9 s10 s11 hd Xle Xch Xpo Xltr Xfi Xse Xth Ksz_108 Kcl_109 Kke_110 Asz Anu Aba Amo Aco Hsz Hla Hce Bsz Bla Bce Tma Tlc Ttc day lim low hig thr off cre rcp pay sv nx SL))))) (by simp only [List.append_assoc, List.append_nil, List.nil_append]) (by simp only [List.append_assoc, List.append_nil, List.nil_append]) hP hK hD hN hS hA (q0 := 0) rfl rfl rfl rfl hl rfl (Nat.le_of_ble_eq_true rfl) dL_same_845 ⟨Nat.zero_le _, Nat.zero_le _⟩ (fun H locs hP hD hS => ?_)
          refine lv_lload hx hb dL_same_848 (lv_at hl 5 rfl) ?_
          refine W.lcmp hx hb dL_same_850 ?_
          refine lv_if_ne (tgt := 960) hx hb dL_same_851 (by decide) (fun c_170 => ?_) (fun c_170 => ?_)
          · have c_170 := fun q => c_170 ((lg_cmp_eq _ _).mpr q)
            have hf := x_f c_170 hf
            refine lv_iconst (v := 0) hx hb dL_same_960 (by decide) ?_
            have hf := Option.some.inj hf
            cases hf
            exact x_zret hx hb hr hlocks hK hP hD hS rfl dL_same_961
          · have c_170 := (lg_cmp_eq _ _).mp c_170
            have hf := x_t c_170 hf
            refine lv_aload_n hx hb dL_same_854 rfl (lv_at hl 0 rfl) ?_
            refine lv_iconst (v := 2) hx hb dL_same_855 (by decide) ?_
            obtain ⟨r_171, h_172, hf⟩ := bd1_el hf
            refine x_callVl (As := [.int 2]) (rest := []) ⟨hx, hb, hml, hown, hts⟩ (mX7_sum l D cy a0 t0 t1 k0 k1 k2 s0 s1 s2 s3 s4 s5 s6 s7 s8 s9 s10 s11 hd Xle Xch Xpo Xltr Xfi Xse Xth Ksz_108 Kcl_109 Kke_110 Asz Anu Aba Amo Aco Hsz Hla Hce Bsz Bla Bce Tma Tlc Ttc day lim low hig thr off cre rcp pay sv nx SL 2 r_171 h_172) (cwV 1 hts (gcV_X7_sum hbg wm_22_10) rfl rfl rfl kdX7_sum ⟨Nat.le_of_ble_eq_true rfl, Nat.le_of_ble_eq_true rfl⟩) (w1 := wAE cy ye0 ee ++ (wAM cy ym0 mm ++ (wAQ cy yq0 qq ++ (wAH cy yh0 hh ++ (wAB cy yb0 bb))))) (w2 := []) (w' := wAE cy ye0 ee ++ (wAM cy ym0 mm ++ (wAQ cy yq0 qq ++ (wAH cy yh0 hh ++ (wAB cy yb0 bb ++ wX7 cy a0 t0 t1 k0 k1 k2 s0 s1 s2 s3 s4 s5 s6 s7 s8 s9 s10 s11 hd Xle Xch Xpo Xltr Xfi Xse Xth Ksz_108 Kcl_109 Kke_110 Asz Anu Aba Amo Aco Hsz Hla Hce Bsz Bla Bce Tma Tlc Ttc day lim low hig thr off cre rcp pay sv nx SL))))) (by simp only [List.append_assoc, List.append_nil, List.nil_append]) (by simp only [List.append_assoc, List.append_nil, List.nil_append]) hP hK hD hN hS hA (q0 := 0) rfl rfl rfl rfl hl rfl (Nat.le_of_ble_eq_true rfl) dL_same_856 ⟨Nat.zero_le _, Nat.zero_le _⟩ (fun H locs hP hD hS => ?_)
            refine lv_aload_n hx hb dL_same_859 rfl (lv_at hl 1 rfl) ?_
            refine lv_bipush (v := 20) hx hb dL_same_860 (by decide) ?_
            obtain ⟨hi_173, hf⟩ := ckI_el hf
            refine va_lald hx hb hK hP 1 2 rfl rfl hi_173 dL_same_862 ?_
            refine W.lcmp hx hb dL_same_863 ?_
            refine lv_if_ne (tgt := 960) hx hb dL_same_864 (by decide) (fun c_174 => ?_) (fun c_174 => ?_)
            · have c_174 := fun q => c_174 ((lg_cmp_eq _ _).mpr q)
              have hf := x_f c_174 hf
              refine lv_iconst (v := 0) hx hb dL_same_960 (by decide) ?_
              have hf := Option.some.inj hf
              cases hf
              exact x_zret hx hb hr hlocks hK hP hD hS rfl dL_same_961
            · have c_174 := (lg_cmp_eq _ _).mp c_174
              have hf := x_t c_174 hf
              refine lv_aload_n hx hb dL_same_867 rfl (lv_at hl 0 rfl) ?_
              refine lv_iconst (v := 3) hx hb dL_same_868 (by decide) ?_
              obtain ⟨r_175, h_176, hf⟩ := bd1_el hf
              refine x_callVl (As := [.int 3]) (rest := []) ⟨hx, hb, hml, hown, hts⟩ (mX7_sum l D cy a0 t0 t1 k0 k1 k2 s0 s1 s2 s3 s4 s5 s6 s7 s8 s9 s10 s11 hd Xle Xch Xpo Xltr Xfi Xse Xth Ksz_108 Kcl_109 Kke_110 Asz Anu Aba Amo Aco Hsz Hla Hce Bsz Bla Bce Tma Tlc Ttc day lim low hig thr off cre rcp pay sv nx SL 3 r_175 h_176) (cwV 1 hts (gcV_X7_sum hbg wm_22_10) rfl rfl rfl kdX7_sum ⟨Nat.le_of_ble_eq_true rfl, Nat.le_of_ble_eq_true rfl⟩) (w1 := wAE cy ye0 ee ++ (wAM cy ym0 mm ++ (wAQ cy yq0 qq ++ (wAH cy yh0 hh ++ (wAB cy yb0 bb))))) (w2 := []) (w' := wAE cy ye0 ee ++ (wAM cy ym0 mm ++ (wAQ cy yq0 qq ++ (wAH cy yh0 hh ++ (wAB cy yb0 bb ++ wX7 cy a0 t0 t1 k0 k1 k2 s0 s1 s2 s3 s4 s5 s6 s7 s8 s9 s10 s11 hd Xle Xch Xpo Xltr Xfi Xse Xth Ksz_108 Kcl_109 Kke_110 Asz Anu Aba Amo Aco Hsz Hla Hce Bsz Bla Bce Tma Tlc Ttc day lim low hig thr off cre rcp pay sv nx SL))))) (by simp only [List.append_assoc, List.append_nil, List.nil_append]) (by simp only [List.append_assoc, List.append_nil, List.nil_append]) hP hK hD hN hS hA (q0 := 0) rfl rfl rfl rfl hl rfl (Nat.le_of_ble_eq_true rfl) dL_same_869 ⟨Nat.zero_le _, Nat.zero_le _⟩ (fun H locs hP hD hS => ?_)
              refine lv_aload_n hx hb dL_same_872 rfl (lv_at hl 1 rfl) ?_
              refine lv_bipush (v := 21) hx hb dL_same_873 (by decide) ?_
              obtain ⟨hi_177, hf⟩ := ckI_el hf
              refine va_lald hx hb hK hP 1 2 rfl rfl hi_177 dL_same_875 ?_
              refine W.lcmp hx hb dL_same_876 ?_
              refine lv_if_ne (tgt := 960) hx hb dL_same_877 (by decide) (fun c_178 => ?_) (fun c_178 => ?_)
              · have c_178 := fun q => c_178 ((lg_cmp_eq _ _).mpr q)
                have hf := x_f c_178 hf
                refine lv_iconst (v := 0) hx hb dL_same_960 (by decide) ?_
                have hf := Option.some.inj hf
                cases hf
                exact x_zret hx hb hr hlocks hK hP hD hS rfl dL_same_961
              · have c_178 := (lg_cmp_eq _ _).mp c_178
                have hf := x_t c_178 hf
                refine lv_aload_n hx hb dL_same_880 rfl (lv_at hl 0 rfl) ?_
                refine lv_iconst (v := 4) hx hb dL_same_881 (by decide) ?_
                obtain ⟨r_179, h_180, hf⟩ := bd1_el hf
                refine x_callVl (As := [.int 4]) (rest := []) ⟨hx, hb, hml, hown, hts⟩ (mX7_sum l D cy a0 t0 t1 k0 k1 k2 s0 s1 s2 s3 s4 s5 s6 s7 s8 s9 s10 s11 hd Xle Xch Xpo Xltr Xfi Xse Xth Ksz_108 Kcl_109 Kke_110 Asz Anu Aba Amo Aco Hsz Hla Hce Bsz Bla Bce Tma Tlc Ttc day lim low hig thr off cre rcp pay sv nx SL 4 r_179 h_180) (cwV 1 hts (gcV_X7_sum hbg wm_22_10) rfl rfl rfl kdX7_sum ⟨Nat.le_of_ble_eq_true rfl, Nat.le_of_ble_eq_true rfl⟩) (w1 := wAE cy ye0 ee ++ (wAM cy ym0 mm ++ (wAQ cy yq0 qq ++ (wAH cy yh0 hh ++ (wAB cy yb0 bb))))) (w2 := []) (w' := wAE cy ye0 ee ++ (wAM cy ym0 mm ++ (wAQ cy yq0 qq ++ (wAH cy yh0 hh ++ (wAB cy yb0 bb ++ wX7 cy a0 t0 t1 k0 k1 k2 s0 s1 s2 s3 s4 s5 s6 s7 s8 s9 s10 s11 hd Xle Xch Xpo Xltr Xfi Xse Xth Ksz_108 Kcl_109 Kke_110 Asz Anu Aba Amo Aco Hsz Hla Hce Bsz Bla Bce Tma Tlc Ttc day lim low hig thr off cre rcp pay sv nx SL))))) (by simp only [List.append_assoc, List.append_nil, List.nil_append]) (by simp only [List.append_assoc, List.append_nil, List.nil_append]) hP hK hD hN hS hA (q0 := 0) rfl rfl rfl rfl hl rfl (Nat.le_of_ble_eq_true rfl) dL_same_882 ⟨Nat.zero_le _, Nat.zero_le _⟩ (fun H locs hP hD hS => ?_)
                refine lv_aload_n hx hb dL_same_885 rfl (lv_at hl 1 rfl) ?_
                refine lv_bipush (v := 22) hx hb dL_same_886 (by decide) ?_
                obtain ⟨hi_181, hf⟩ := ckI_el hf
                refine va_lald hx hb hK hP 1 2 rfl rfl hi_181 dL_same_888 ?_
                refine W.lcmp hx hb dL_same_889 ?_
                refine lv_if_ne (tgt := 960) hx hb dL_same_890 (by decide) (fun c_182 => ?_) (fun c_182 => ?_)
                · have c_182 := fun q => c_182 ((lg_cmp_eq _ _).mpr q)
                  have hf := x_f c_182 hf
                  refine lv_iconst (v := 0) hx hb dL_same_960 (by decide) ?_
                  have hf := Option.some.inj hf
                  cases hf
                  exact x_zret hx hb hr hlocks hK hP hD hS rfl dL_same_961
                · have c_182 := (lg_cmp_eq _ _).mp c_182
                  have hf := x_t c_182 hf
                  refine lv_aload_n hx hb dL_same_893 rfl (lv_at hl 0 rfl) ?_
                  refine lv_iconst (v := 5) hx hb dL_same_894 (by decide) ?_
                  obtain ⟨r_183, h_184, hf⟩ := bd1_el hf
                  refine x_callVl (As := [.int 5]) (rest := []) ⟨hx, hb, hml, hown, hts⟩ (mX7_sum l D cy a0 t0 t1 k0 k1 k2 s0 s1 s2 s3 s4 s5 s6 s7 s8 s9 s10 s11 hd Xle Xch Xpo Xltr Xfi Xse Xth Ksz_108 Kcl_109 Kke_110 Asz Anu Aba Amo Aco Hsz Hla Hce Bsz Bla Bce Tma Tlc Ttc day lim low hig thr off cre rcp pay sv nx SL 5 r_183 h_184) (cwV 1 hts (gcV_X7_sum hbg wm_22_10) rfl rfl rfl kdX7_sum ⟨Nat.le_of_ble_eq_true rfl, Nat.le_of_ble_eq_true rfl⟩) (w1 := wAE cy ye0 ee ++ (wAM cy ym0 mm ++ (wAQ cy yq0 qq ++ (wAH cy yh0 hh ++ (wAB cy yb0 bb))))) (w2 := []) (w' := wAE cy ye0 ee ++ (wAM cy ym0 mm ++ (wAQ cy yq0 qq ++ (wAH cy yh0 hh ++ (wAB cy yb0 bb ++ wX7 cy a0 t0 t1 k0 k1 k2 s0 s1 s2 s3 s4 s5 s6 s7 s8 s9 s10 s11 hd Xle Xch Xpo Xltr Xfi Xse Xth Ksz_108 Kcl_109 Kke_110 Asz Anu Aba Amo Aco Hsz Hla Hce Bsz Bla Bce Tma Tlc Ttc day lim low hig thr off cre rcp pay sv nx SL))))) (by simp only [List.append_assoc, List.append_nil, List.nil_append]) (by simp only [List.append_assoc, List.append_nil, List.nil_append]) hP hK hD hN hS hA (q0 := 0) rfl rfl rfl rfl hl rfl (Nat.le_of_ble_eq_true rfl) dL_same_895 ⟨Nat.zero_le _, Nat.zero_le _⟩ (fun H locs hP hD hS => ?_)
                  refine lv_aload_n hx hb dL_same_898 rfl (lv_at hl 1 rfl) ?_
                  refine lv_bipush (v := 23) hx hb dL_same_899 (by decide) ?_
                  obtain ⟨hi_185, hf⟩ := ckI_el hf
                  refine va_lald hx hb hK hP 1 2 rfl rfl hi_185 dL_same_901 ?_
                  refine W.lcmp hx hb dL_same_902 ?_
                  refine lv_if_ne (tgt := 960) hx hb dL_same_903 (by decide) (fun c_186 => ?_) (fun c_186 => ?_)
                  · have c_186 := fun q => c_186 ((lg_cmp_eq _ _).mpr q)
                    have hf := x_f c_186 hf
                    refine lv_iconst (v := 0) hx hb dL_same_960 (by decide) ?_
                    have hf := Option.some.inj hf
                    cases hf
                    exact x_zret hx hb hr hlocks hK hP hD hS rfl dL_same_961
                  · have c_186 := (lg_cmp_eq _ _).mp c_186
                    have hf := x_t c_186 hf
                    refine lv_aload_n hx hb dL_same_906 rfl (lv_at hl 0 rfl) ?_
                    refine lv_iconst (v := 1) hx hb dL_same_907 (by decide) ?_
                    refine lv_iload hx hb dL_same_908 (lv_at hl 3 rfl) ?_
                    obtain ⟨r_187, Ksz_188, Kcl_189, Kke_190, h_191, hf⟩ := bd4_el hf
                    refine x_callVi (As := [.int 1, .int x7_71]) (rest := []) ⟨hx, hb, hml, hown, hts⟩ (mX7_ranked l D cy a0 t0 t1 k0 k1 k2 s0 s1 s2 s3 s4 s5 s6 s7 s8 s9 s10 s11 hd Xle Xch Xpo Xltr Xfi Xse Xth Ksz_108 Kcl_109 Kke_110 Asz Anu Aba Amo Aco Hsz Hla Hce Bsz Bla Bce Tma Tlc Ttc day lim low hig thr off cre rcp pay sv nx SL 1 x7_71 r_187 Ksz_188 Kcl_189 Kke_190 h_191) (cwV 2 hts (gcV_X7_ranked hbg wm_20_6) rfl rfl rfl kdX7_ranked ⟨Nat.le_of_ble_eq_true rfl, Nat.le_of_ble_eq_true rfl⟩) (w1 := wAE cy ye0 ee ++ (wAM cy ym0 mm ++ (wAQ cy yq0 qq ++ (wAH cy yh0 hh ++ (wAB cy yb0 bb))))) (w2 := []) (w' := wAE cy ye0 ee ++ (wAM cy ym0 mm ++ (wAQ cy yq0 qq ++ (wAH cy yh0 hh ++ (wAB cy yb0 bb ++ wX7 cy a0 t0 t1 k0 k1 k2 s0 s1 s2 s3 s4 s5 s6 s7 s8 s9 s10 s11 hd Xle Xch Xpo Xltr Xfi Xse Xth Ksz_188 Kcl_189 Kke_190 Asz Anu Aba Amo Aco Hsz Hla Hce Bsz Bla Bce Tma Tlc Ttc day lim low hig thr off cre rcp pay sv nx SL))))) (by simp only [List.append_assoc, List.append_nil, List.nil_append]) (by simp only [List.append_assoc, List.append_nil, List.nil_append]) hP hK hD hN hS hA (q0 := 0) rfl rfl rfl rfl hl rfl (Nat.le_of_ble_eq_true rfl) dL_same_910 ⟨Nat.zero_le _, Nat.zero_le _⟩ (fun H locs hP hD hS => ?_)
                    refine lv_iconst (v := (-1)) hx hb dL_same_913 (by decide) ?_
                    refine lv_icmp_ne (tgt := 960) hx hb dL_same_914 (by decide) (fun c_192 => ?_) (fun c_192 => ?_)
                    · have hf := x_f c_192 hf
                      refine lv_iconst (v := 0) hx hb dL_same_960 (by decide) ?_
                      have hf := Option.some.inj hf
                      cases hf
                      exact x_zret hx hb hr hlocks hK hP hD hS rfl dL_same_961
                    · have hf := x_t c_192 hf
                      refine lv_lload hx hb dL_same_917 (lv_at hl 4 rfl) ?_
                      refine lv_aload_n hx hb dL_same_919 rfl (lv_at hl 1 rfl) ?_
                      refine lv_bipush (v := 20) hx hb dL_same_920 (by decide) ?_
                      obtain ⟨hi_193, hf⟩ := ckI_el hf
                      refine va_lald hx hb hK hP 1 2 rfl rfl hi_193 dL_same_922 ?_
                      refine lv_ladd hx hb dL_same_923 ?_
                      refine lv_aload_n hx hb dL_same_924 rfl (lv_at hl 1 rfl) ?_
                      refine lv_bipush (v := 23) hx hb dL_same_925 (by decide) ?_
                      obtain ⟨hi_194, hf⟩ := ckI_el hf
                      refine va_lald hx hb hK hP 1 2 rfl rfl hi_194 dL_same_927 ?_
                      refine lv_ladd hx hb dL_same_928 ?_
                      refine lv_aload_n hx hb dL_same_929 rfl (lv_at hl 1 rfl) ?_
                      refine lv_bipush (v := 21) hx hb dL_same_930 (by decide) ?_
                      obtain ⟨hi_195, hf⟩ := ckI_el hf
                      refine va_lald hx hb hK hP 1 2 rfl rfl hi_195 dL_same_932 ?_
                      refine lv_aload_n hx hb dL_same_933 rfl (lv_at hl 1 rfl) ?_
                      refine lv_bipush (v := 22) hx hb dL_same_934 (by decide) ?_
                      obtain ⟨hi_196, hf⟩ := ckI_el hf
                      refine va_lald hx hb hK hP 1 2 rfl rfl hi_196 dL_same_936 ?_
                      refine lv_ladd hx hb dL_same_937 ?_
                      refine W.lcmp hx hb dL_same_938 ?_
                      refine lv_if_ne (tgt := 960) hx hb dL_same_939 (by decide) (fun c_197 => ?_) (fun c_197 => ?_)
                      · have c_197 := fun q => c_197 ((lg_cmp_eq _ _).mpr q)
                        have hf := x_f c_197 hf
                        refine lv_iconst (v := 0) hx hb dL_same_960 (by decide) ?_
                        have hf := Option.some.inj hf
                        cases hf
                        exact x_zret hx hb hr hlocks hK hP hD hS rfl dL_same_961
                      · have c_197 := (lg_cmp_eq _ _).mp c_197
                        have hf := x_t c_197 hf
                        refine lv_aload_n hx hb dL_same_942 rfl (lv_at hl 0 rfl) ?_
                        refine lv_aload_n hx hb dL_same_943 rfl (lv_at hl 2 rfl) ?_
                        refine lv_iconst (v := 5) hx hb dL_same_944 (by decide) ?_
                        obtain ⟨hi_198, hf⟩ := ckI_el hf
                        refine va_iald hx hb hK hP 2 1 rfl rfl hi_198 dL_same_945 ?_
                        refine lv_iconst (v := 1) hx hb dL_same_946 (by decide) ?_
                        refine lv_iadd hx hb dL_same_947 ?_
                        refine lv_iconst (v := 0) hx hb dL_same_948 (by decide) ?_
                        obtain ⟨r_199, h_200, hf⟩ := bd1_el hf
                        refine x_callVi (As := [.int ((qq (5 : Int32).toNatClampNeg) + 1), .int 0]) (rest := []) ⟨hx, hb, hml, hown, hts⟩ (mX7_entry l D cy a0 t0 t1 k0 k1 k2 s0 s1 s2 s3 s4 s5 s6 s7 s8 s9 s10 s11 hd Xle Xch Xpo Xltr Xfi Xse Xth Ksz_188 Kcl_189 Kke_190 Asz Anu Aba Amo Aco Hsz Hla Hce Bsz Bla Bce Tma Tlc Ttc day lim low hig thr off cre rcp pay sv nx SL ((qq (5 : Int32).toNatClampNeg) + 1) 0 r_199 h_200) (cwV 2 hts (gcV_X7_entry hbg wm_18_15) rfl rfl rfl kdX7_entry ⟨Nat.le_of_ble_eq_true rfl, Nat.le_of_ble_eq_true rfl⟩) (w1 := wAE cy ye0 ee ++ (wAM cy ym0 mm ++ (wAQ cy yq0 qq ++ (wAH cy yh0 hh ++ (wAB cy yb0 bb))))) (w2 := []) (w' := wAE cy ye0 ee ++ (wAM cy ym0 mm ++ (wAQ cy yq0 qq ++ (wAH cy yh0 hh ++ (wAB cy yb0 bb ++ wX7 cy a0 t0 t1 k0 k1 k2 s0 s1 s2 s3 s4 s5 s6 s7 s8 s9 s10 s11 hd Xle Xch Xpo Xltr Xfi Xse Xth Ksz_188 Kcl_189 Kke_190 Asz Anu Aba Amo Aco Hsz Hla Hce Bsz Bla Bce Tma Tlc Ttc day lim low hig thr off cre rcp pay sv nx SL))))) (by simp only [List.append_assoc, List.append_nil, List.nil_append]) (by simp only [List.append_assoc, List.append_nil, List.nil_append]) hP hK hD hN hS hA (q0 := 0) rfl rfl rfl rfl hl rfl (Nat.le_of_ble_eq_true rfl) dL_same_949 ⟨Nat.zero_le _, Nat.zero_le _⟩ (fun H locs hP hD hS => ?_)
                        refine lv_iconst (v := (-1)) hx hb dL_same_952 (by decide) ?_
                        refine lv_icmp_ne (tgt := 960) hx hb dL_same_953 (by decide) (fun c_201 => ?_) (fun c_201 => ?_)
                        · have hf := x_f c_201 hf
                          refine lv_iconst (v := 0) hx hb dL_same_960 (by decide) ?_
                          have hf := Option.some.inj hf
                          cases hf
                          exact x_zret hx hb hr hlocks hK hP hD hS rfl dL_same_961
                        · have hf := x_t c_201 hf
                          refine lv_iconst (v := 1) hx hb dL_same_956 (by decide) ?_
                          refine lv_goto (tgt := 961) hx hb dL_same_957 (by decide) ?_
                          have hf := Option.some.inj hf
                          cases hf
                          exact x_zret hx hb hr hlocks hK hP hD hS rfl dL_same_961
