theorem blk_cong {f g : Nat → va_W} : ∀ (n : Nat), (∀ k, k < n → f k = g k) → blk f n = blk g n
  | 0, _ => rfl
  | n + 1, h => by
    show blk f n ++ f n = blk g n ++ g n
    rw [blk_cong n (fun k hk => h k (Nat.lt_succ_of_lt hk)), h n (Nat.lt_succ_self n)]
theorem blk_out (f : Nat → va_W) : ∀ (n k : Nat), k < n → ∃ rest, ∀ g : Nat → va_W, (∀ j, j < n → j ≠ k → g j = f j) → (g k ++ rest).Perm (blk g n) := by
  intro n
  induction n with
  | zero => intro k hk; exact absurd hk (Nat.not_lt_zero k)
  | succ n ih =>
    intro k hk
    by_cases e : k = n
    · subst e
      refine ⟨blk f k, fun g hg => ?_⟩
      show (g k ++ blk f k).Perm (blk g k ++ g k)
      rw [blk_cong k (fun j hj => hg j (Nat.lt_succ_of_lt hj) (Nat.ne_of_lt hj))]
      exact List.perm_append_comm
    · obtain ⟨rest, hr⟩ := ih k (by omega)
      refine ⟨rest ++ f n, fun g hg => ?_⟩
      show (g k ++ (rest ++ f n)).Perm (blk g n ++ g n)
      rw [hg n (Nat.lt_succ_self n) (fun z => e z.symm), ← List.append_assoc]
      exact (hr g (fun j hj hne => hg j (Nat.lt_succ_of_lt hj) hne)).append_right _
theorem slot_perm (cy : Nat → ClassId) (hd : Nat → Nat) (SL : Nat → XS) (k : Nat) (hk : k < 7) : ∃ rest, ∀ σ : XS, (wXS cy (sl hd k) σ ++ rest).Perm (blk (fun j => wXS cy (sl hd j) (va_up SL k σ j)) 7) := by
  obtain ⟨rest, hr⟩ := blk_out (fun j => wXS cy (sl hd j) (SL j)) 7 k hk
  refine ⟨rest, fun σ => ?_⟩
  have h := hr (fun j => wXS cy (sl hd j) (va_up SL k σ j)) (fun j hj hne => by show wXS cy (sl hd j) (va_up SL k σ j) = wXS cy (sl hd j) (SL j); rw [va_up_ne _ _ hne])
  have e : va_up SL k σ k = σ := by simp [va_up]
  have h : (wXS cy (sl hd k) (va_up SL k σ k) ++ rest).Perm (blk (fun j => wXS cy (sl hd j) (va_up SL k σ j)) 7) := h
  rw [e] at h
  exact h
theorem up_self (SL : Nat → XS) (k : Nat) : va_up SL k (SL k) = SL := by
  funext j
  by_cases e : j = k
  · subst e; simp [va_up]
  · exact va_up_ne _ _ e
theorem perm_in (S c B rest X : va_W) (h : (B ++ rest).Perm X) : ((B ++ S) ++ (c ++ rest)).Perm (S ++ (c ++ X)) := by
  have h1 : (B ++ (S ++ (c ++ rest))).Perm (S ++ (B ++ (c ++ rest))) := List.perm_append_comm_assoc _ _ _
  have h2 : (B ++ (c ++ rest)).Perm (c ++ (B ++ rest)) := List.perm_append_comm_assoc _ _ _
  rw [List.append_assoc]
  exact h1.trans ((h2.trans (h.append_left c)).append_left S)
theorem perm_in2 (S c B rest X : va_W) (h : (B ++ rest).Perm X) : ((S ++ B) ++ (c ++ rest)).Perm (S ++ (c ++ X)) := by
  have h2 : (B ++ (c ++ rest)).Perm (c ++ (B ++ rest)) := List.perm_append_comm_assoc _ _ _
  rw [List.append_assoc]
  exact (h2.trans (h.append_left c)).append_left S
theorem slotAt_ok (hd : Nat → Nat) {nx : Int32} (h : vp_in nx 7) : fX1_slotAt hd nx = some (some (hd (2 + 12 * nx.toNatClampNeg))) := by
  obtain ⟨j, hj, rfl⟩ := vp_in_of h (by decide)
  unfold fX1_slotAt ckI
  rw [if_neg (nI_pos (by omega)), if_neg (show ¬ (7 : Int32) ≤ nI j from nI_ge (a := j) (b := 7) hj (by omega)), if_neg h]
def rmX1_prepare : Room := { frames := 3, cells := 0, slots := 0, locals := 90 }
theorem kdX1_prepare : yX1_prepare.cls = RX1 ∧ yX1_prepare.cls ≠ "java/lang/invoke/MethodHandle" ∧ yX1_prepare.cls ≠ "java/lang/invoke/VarHandle" ∧ (parseMethodDescriptor yX1_prepare.desc).map (fun d => d.parameters.length) = some 1 := by decide +kernel
set_option maxHeartbeats 4000000 in
set_option maxRecDepth 100000 in
theorem mX1_prepare (l : Launch) (D : va_G) (cy : Nat → ClassId) (s0 s1 s2 s3 s4 s5 s6 s7 s8 s9 s10 s11 : Nat) (hd : Nat → Nat) (Asz : Int32) (Anu : Nat → Int32) (Aba : Nat → Int32) (Amo : Nat → Int32) (Aco : Nat → Int64) (Hsz : Int32) (Hla : Int32) (Hce : Nat → Int32) (Bsz : Int32) (Bla : Int32) (Bce : Nat → Int32) (Tma : Int32) (Tlc : Int32) (Ttc : Nat → Int32) (day : Int32) (lim : Int32) (low : Int32) (hig : Int32) (thr : Int32) (off : Int64) (cre : Int64) (rcp : Int64) (pay : Int64) (sv nx : Int32) (SL SL' : Nat → XS) (hf : fX1_prepare Asz Anu Aba Amo Aco Hsz Hla Hce Bsz Bla Bce Tma Tlc Ttc day lim low hig thr off cre rcp pay nx SL = some SL') : xMv l D cy yX1_prepare aX1_prepare rmX1_prepare ([.ref (hd 0), .ref s0] : List Value) (wX5 cy s0 s1 s2 s3 s4 s5 s6 s7 s8 s9 s10 s11 Asz Anu Aba Amo Aco Hsz Hla Hce Bsz Bla Bce Tma Tlc Ttc day lim low hig thr off cre rcp pay ++ wX1 cy hd sv nx SL) (wX5 cy s0 s1 s2 s3 s4 s5 s6 s7 s8 s9 s10 s11 Asz Anu Aba Amo Aco Hsz Hla Hce Bsz Bla Bce Tma Tlc Ttc day lim low hig thr off cre rcp pay ++ wX1 cy hd sv nx SL') := by
  intro hz
  refine x_start (Qc := xQv D cy _) (cc := cX1_prepare) (maxL := 3) (ret := none) (by decide) rfl (Nat.le_of_ble_eq_true rfl) (lv := [(0, .ref (hd 0)), (1, .ref s0)]) rfl ?_
  intro p e s m below meth c ls A hx hb hr hml hown hts hlocks hK hP hD hS hA hN hl
  have hown : s.vm.findClass RX1 = some m.cls := hown
  have hbg : ∀ w ∈ wsL_law, w ∈ aX1_prepare := fun w h => List.mem_cons_of_mem _ h
  have iX1 : ∀ w ∈ u_ws RX1 TX1 3, w ∈ aX1_prepare := fun w h => List.mem_cons_of_mem _ (inlX1 w h)
  have wd0 : (Cond.fieldLink RX1 15 "ClientMoneyBook$History" "next" "I").before ([.ref (hd 0), .ref s0] : List Value).toArray s = true := hts _ (List.mem_cons_of_mem _ wm_3_9)
  unfold fX1_prepare at hf
  obtain ⟨hi, hf⟩ := ckI_el hf
  cases hf
  obtain ⟨kn, hkn, ekn⟩ := vp_in_of hi (by decide)
  have hlt : nx.toNatClampNeg < 7 := by rw [ekn, nI_clamp (by omega)]; exact hkn
  obtain ⟨rest, hrest⟩ := slot_perm cy hd SL nx.toNatClampNeg hlt
  have hpm : (wXS cy (sl hd nx.toNatClampNeg) (SL nx.toNatClampNeg) ++ rest).Perm (blk (fun j => wXS cy (sl hd j) (SL j)) 7) := by
    have h := hrest (SL nx.toNatClampNeg)
    rw [up_self] at h
    exact h
  refine lv_aload_n hx hb dX1_prepare_0 rfl (lv_at hl 0 rfl) ?_
  refine lv_aload_n hx hb dX1_prepare_1 rfl (lv_at hl 0 rfl) ?_
  refine x_get hx hb (C := RX1) (T := TX1) (N := 3) (ci := 1) hts iX1 hown hK hP 12 rfl rfl 1 (by decide) wd0 rfl (.int nx) rfl dX1_prepare_2 ?_
  refine x_callVq (As := [.int nx]) (rest := []) ⟨hx, hb, hml, hown, hts⟩ (mX1_slotAt l D cy hd sv nx SL nx _ (slotAt_ok hd hi)) (cwV 1 hts (gcV_X1_slotAt hbg wm_5_0) rfl rfl rfl kdX1_slotAt ⟨Nat.le_of_ble_eq_true rfl, Nat.le_of_ble_eq_true rfl⟩) (w1 := wX5 cy s0 s1 s2 s3 s4 s5 s6 s7 s8 s9 s10 s11 Asz Anu Aba Amo Aco Hsz Hla Hce Bsz Bla Bce Tma Tlc Ttc day lim low hig thr off cre rcp pay) (w2 := []) (w' := wX5 cy s0 s1 s2 s3 s4 s5 s6 s7 s8 s9 s10 s11 Asz Anu Aba Amo Aco Hsz Hla Hce Bsz Bla Bce Tma Tlc Ttc day lim low hig thr off cre rcp pay ++ wX1 cy hd sv nx SL) (x_end rfl) (x_end rfl) hP hK hD hN hS hA (q0 := 0) rfl rfl rfl rfl hl rfl (Nat.le_of_ble_eq_true rfl) dX1_prepare_5 ⟨Nat.zero_le _, Nat.zero_le _⟩ (fun H locs hP hD hS => ?_)
  refine lv_astore_n (x := hd (2 + 12 * nx.toNatClampNeg)) (lv' := [(2, .ref (hd (2 + 12 * nx.toNatClampNeg))), (0, .ref (hd 0)), (1, .ref s0)]) hx hb dX1_prepare_8 rfl hl (by decide) rfl (fun ls hl => ?_)
  refine lv_aload_n hx hb dX1_prepare_9 rfl (lv_at hl 0 rfl) ?_
  refine lv_ifnull hx hb dX1_prepare_10 ?_
  refine lv_aload_n hx hb dX1_prepare_13 rfl (lv_at hl 0 rfl) ?_
  refine lv_aload_n hx hb dX1_prepare_14 rfl (lv_at hl 2 rfl) ?_
  refine x_callPv (As := [.ref s0]) (rest := []) ⟨hx, hb, hml, hown, hts⟩ (mX5_copyFrom l D cy (sl hd nx.toNatClampNeg 0) (sl hd nx.toNatClampNeg 1) (sl hd nx.toNatClampNeg 2) (sl hd nx.toNatClampNeg 3) (sl hd nx.toNatClampNeg 4) (sl hd nx.toNatClampNeg 5) (sl hd nx.toNatClampNeg 6) (sl hd nx.toNatClampNeg 7) (sl hd nx.toNatClampNeg 8) (sl hd nx.toNatClampNeg 9) (sl hd nx.toNatClampNeg 10) (sl hd nx.toNatClampNeg 11) s0 s1 s2 s3 s4 s5 s6 s7 s8 s9 s10 s11 (SL nx.toNatClampNeg).1 (SL nx.toNatClampNeg).2.1 (SL nx.toNatClampNeg).2.2.1 (SL nx.toNatClampNeg).2.2.2.1 (SL nx.toNatClampNeg).2.2.2.2.1 (SL nx.toNatClampNeg).2.2.2.2.2.1 (SL nx.toNatClampNeg).2.2.2.2.2.2.1 (SL nx.toNatClampNeg).2.2.2.2.2.2.2.1 (SL nx.toNatClampNeg).2.2.2.2.2.2.2.2.1 (SL nx.toNatClampNeg).2.2.2.2.2.2.2.2.2.1 (SL nx.toNatClampNeg).2.2.2.2.2.2.2.2.2.2.1 (SL nx.toNatClampNeg).2.2.2.2.2.2.2.2.2.2.2.1 (SL nx.toNatClampNeg).2.2.2.2.2.2.2.2.2.2.2.2.1 (SL nx.toNatClampNeg).2.2.2.2.2.2.2.2.2.2.2.2.2.1 (SL nx.toNatClampNeg).2.2.2.2.2.2.2.2.2.2.2.2.2.2.1 (SL nx.toNatClampNeg).2.2.2.2.2.2.2.2.2.2.2.2.2.2.2.1 (SL nx.toNatClampNeg).2.2.2.2.2.2.2.2.2.2.2.2.2.2.2.2.1 (SL nx.toNatClampNeg).2.2.2.2.2.2.2.2.2.2.2.2.2.2.2.2.2.1 (SL nx.toNatClampNeg).2.2.2.2.2.2.2.2.2.2.2.2.2.2.2.2.2.2.1 (SL nx.toNatClampNeg).2.2.2.2.2.2.2.2.2.2.2.2.2.2.2.2.2.2.2.1 (SL nx.toNatClampNeg).2.2.2.2.2.2.2.2.2.2.2.2.2.2.2.2.2.2.2.2.1 (SL nx.toNatClampNeg).2.2.2.2.2.2.2.2.2.2.2.2.2.2.2.2.2.2.2.2.2.1 (SL nx.toNatClampNeg).2.2.2.2.2.2.2.2.2.2.2.2.2.2.2.2.2.2.2.2.2.2 Asz Anu Aba Amo Aco Hsz Hla Hce Bsz Bla Bce Tma Tlc Ttc day lim low hig thr off cre rcp pay Asz Anu Aba Amo Aco Hsz Hla Hce Bsz Bla Bce Tma Tlc Ttc day lim low hig thr off cre rcp pay rfl) (cwV 1 hts (gcV_X5_copyFrom hbg wm_5_4) rfl rfl rfl kdX5_copyFrom ⟨Nat.le_of_ble_eq_true rfl, Nat.le_of_ble_eq_true rfl⟩) (wr := ([(hd 0, .inr (1, [.int sv, .int nx, .ref (hd 1)])), (hd 1, .inl (cy 3, 7, .inr (.inr (.inr (.inr (fun k => some (hd (2 + 12 * k))))))))] : va_W) ++ rest) (w' := wX5 cy s0 s1 s2 s3 s4 s5 s6 s7 s8 s9 s10 s11 Asz Anu Aba Amo Aco Hsz Hla Hce Bsz Bla Bce Tma Tlc Ttc day lim low hig thr off cre rcp pay ++ wX1 cy hd sv nx (va_up SL nx.toNatClampNeg (Asz, Anu, Aba, Amo, Aco, Hsz, Hla, Hce, Bsz, Bla, Bce, Tma, Tlc, Ttc, day, lim, low, hig, thr, off, cre, rcp, pay))) (perm_in _ _ _ _ _ hpm) (perm_in _ _ _ _ _ (hrest (Asz, Anu, Aba, Amo, Aco, Hsz, Hla, Hce, Bsz, Bla, Bce, Tma, Tlc, Ttc, day, lim, low, hig, thr, off, cre, rcp, pay))) hP hK hD hN hS hA (q0 := 0) rfl rfl rfl rfl hl rfl (Nat.le_of_ble_eq_true rfl) dX1_prepare_15 ⟨Nat.zero_le _, Nat.zero_le _⟩ (fun H locs hP hD hS => ?_)
  exact x_vret hx hb hr hlocks hK hP hD hS dX1_prepare_18
def rmX1_restoreLatest : Room := { frames := 3, cells := 0, slots := 0, locals := 90 }
theorem kdX1_restoreLatest : yX1_restoreLatest.cls = RX1 ∧ yX1_restoreLatest.cls ≠ "java/lang/invoke/MethodHandle" ∧ yX1_restoreLatest.cls ≠ "java/lang/invoke/VarHandle" ∧ (parseMethodDescriptor yX1_restoreLatest.desc).map (fun d => d.parameters.length) = some 1 := by decide +kernel
set_option maxHeartbeats 4000000 in
set_option maxRecDepth 100000 in
theorem mX1_restoreLatest (l : Launch) (D : va_G) (cy : Nat → ClassId) (s0 s1 s2 s3 s4 s5 s6 s7 s8 s9 s10 s11 : Nat) (hd : Nat → Nat) (Asz : Int32) (Anu : Nat → Int32) (Aba : Nat → Int32) (Amo : Nat → Int32) (Aco : Nat → Int64) (Hsz : Int32) (Hla : Int32) (Hce : Nat → Int32) (Bsz : Int32) (Bla : Int32) (Bce : Nat → Int32) (Tma : Int32) (Tlc : Int32) (Ttc : Nat → Int32) (day : Int32) (lim : Int32) (low : Int32) (hig : Int32) (thr : Int32) (off : Int64) (cre : Int64) (rcp : Int64) (pay : Int64) (sv nx : Int32) (SL : Nat → XS) (r : Int32) (Asz' : Int32) (Anu' : Nat → Int32) (Aba' : Nat → Int32) (Amo' : Nat → Int32) (Aco' : Nat → Int64) (Hsz' : Int32) (Hla' : Int32) (Hce' : Nat → Int32) (Bsz' : Int32) (Bla' : Int32) (Bce' : Nat → Int32) (Tma' : Int32) (Tlc' : Int32) (Ttc' : Nat → Int32) (day' : Int32) (lim' : Int32) (low' : Int32) (hig' : Int32) (thr' : Int32) (off' : Int64) (cre' : Int64) (rcp' : Int64) (pay' : Int64) (sv' nx' : Int32) (hf : fX1_restoreLatest sv nx SL = some (r, Asz', Anu', Aba', Amo', Aco', Hsz', Hla', Hce', Bsz', Bla', Bce', Tma', Tlc', Ttc', day', lim', low', hig', thr', off', cre', rcp', pay', sv', nx')) : xMi l D cy yX1_restoreLatest aX1_restoreLatest rmX1_restoreLatest ([.ref (hd 0), .ref s0] : List Value) (wX5 cy s0 s1 s2 s3 s4 s5 s6 s7 s8 s9 s10 s11 Asz Anu Aba Amo Aco Hsz Hla Hce Bsz Bla Bce Tma Tlc Ttc day lim low hig thr off cre rcp pay ++ wX1 cy hd sv nx SL) (wX5 cy s0 s1 s2 s3 s4 s5 s6 s7 s8 s9 s10 s11 Asz' Anu' Aba' Amo' Aco' Hsz' Hla' Hce' Bsz' Bla' Bce' Tma' Tlc' Ttc' day' lim' low' hig' thr' off' cre' rcp' pay' ++ wX1 cy hd sv' nx' SL) r := by
  intro hz
  refine x_start (Qc := xQi D cy _ r) (cc := cX1_restoreLatest) (maxL := 3) (ret := (some .int)) (by decide) rfl (Nat.le_of_ble_eq_true rfl) (lv := [(0, .ref (hd 0)), (1, .ref s0)]) rfl ?_
  intro p e s m below meth c ls A hx hb hr hml hown hts hlocks hK hP hD hS hA hN hl
  have hown : s.vm.findClass RX1 = some m.cls := hown
  have hbg : ∀ w ∈ wsL_law, w ∈ aX1_restoreLatest := fun w h => List.mem_cons_of_mem _ h
  have iX1 : ∀ w ∈ u_ws RX1 TX1 3, w ∈ aX1_restoreLatest := fun w h => List.mem_cons_of_mem _ (inlX1 w h)
  have wd0 : (Cond.fieldLink RX1 15 "ClientMoneyBook$History" "next" "I").before ([.ref (hd 0), .ref s0] : List Value).toArray s = true := hts _ (List.mem_cons_of_mem _ wm_3_9)
  have wd1 : (Cond.fieldLink RX1 9 "ClientMoneyBook$History" "saved" "I").before ([.ref (hd 0), .ref s0] : List Value).toArray s = true := hts _ (List.mem_cons_of_mem _ wm_3_8)
  unfold fX1_restoreLatest at hf
  obtain ⟨nx1, enx, hf⟩ := lt_el hf
  obtain ⟨sv1, esv, hf⟩ := lt_el hf
  obtain ⟨hi, hf⟩ := ckI_el hf
  obtain ⟨kn, hkn, ekn⟩ := vp_in_of hi (by decide)
  have hlt : nx1.toNatClampNeg < 7 := by rw [ekn, nI_clamp (by omega)]; exact hkn
  obtain ⟨rest, hrest⟩ := slot_perm cy hd SL nx1.toNatClampNeg hlt
  have hgo : ∀ (ls : Array Slot), lv_has ls 3 [(0, .ref (hd 0)), (1, .ref s0)] → W p l e rmX1_restoreLatest s m ([.ref (hd 0), .ref s0] : List Value).toArray below meth c s.heap [] 0 0 (MQ below (xQi D cy (wX5 cy s0 s1 s2 s3 s4 s5 s6 s7 s8 s9 s10 s11 (SL nx1.toNatClampNeg).1 (SL nx1.toNatClampNeg).2.1 (SL nx1.toNatClampNeg).2.2.1 (SL nx1.toNatClampNeg).2.2.2.1 (SL nx1.toNatClampNeg).2.2.2.2.1 (SL nx1.toNatClampNeg).2.2.2.2.2.1 (SL nx1.toNatClampNeg).2.2.2.2.2.2.1 (SL nx1.toNatClampNeg).2.2.2.2.2.2.2.1 (SL nx1.toNatClampNeg).2.2.2.2.2.2.2.2.1 (SL nx1.toNatClampNeg).2.2.2.2.2.2.2.2.2.1 (SL nx1.toNatClampNeg).2.2.2.2.2.2.2.2.2.2.1 (SL nx1.toNatClampNeg).2.2.2.2.2.2.2.2.2.2.2.1 (SL nx1.toNatClampNeg).2.2.2.2.2.2.2.2.2.2.2.2.1 (SL nx1.toNatClampNeg).2.2.2.2.2.2.2.2.2.2.2.2.2.1 (SL nx1.toNatClampNeg).2.2.2.2.2.2.2.2.2.2.2.2.2.2.1 (SL nx1.toNatClampNeg).2.2.2.2.2.2.2.2.2.2.2.2.2.2.2.1 (SL nx1.toNatClampNeg).2.2.2.2.2.2.2.2.2.2.2.2.2.2.2.2.1 (SL nx1.toNatClampNeg).2.2.2.2.2.2.2.2.2.2.2.2.2.2.2.2.2.1 (SL nx1.toNatClampNeg).2.2.2.2.2.2.2.2.2.2.2.2.2.2.2.2.2.2.1 (SL nx1.toNatClampNeg).2.2.2.2.2.2.2.2.2.2.2.2.2.2.2.2.2.2.2.1 (SL nx1.toNatClampNeg).2.2.2.2.2.2.2.2.2.2.2.2.2.2.2.2.2.2.2.2.1 (SL nx1.toNatClampNeg).2.2.2.2.2.2.2.2.2.2.2.2.2.2.2.2.2.2.2.2.2.1 (SL nx1.toNatClampNeg).2.2.2.2.2.2.2.2.2.2.2.2.2.2.2.2.2.2.2.2.2.2 ++ wX1 cy hd sv1 nx1 SL) sv1 A) ([.ref (hd 0), .ref s0] : List Value).toArray s 0 0 A) (F0 m 19 ls [.int nx1, .ref (hd 0)]) := by
    intro ls hl
    refine x_put hx hb (C := RX1) (T := TX1) (N := 3) (ci := 1) hts iX1 tyX1 tyX1_ok nmX1 hown hK hP hD hS 12 rfl rfl 1 (by decide) wd0 rfl rfl (ty := .int) rfl rfl rfl (Nat.le_of_ble_eq_true rfl) (w' := wX5 cy s0 s1 s2 s3 s4 s5 s6 s7 s8 s9 s10 s11 Asz Anu Aba Amo Aco Hsz Hla Hce Bsz Bla Bce Tma Tlc Ttc day lim low hig thr off cre rcp pay ++ wX1 cy hd sv nx1 SL) rfl dX1_restoreLatest_19 (fun H locs hP hD hS => ?_)
    refine lv_aload_n hx hb dX1_restoreLatest_22 rfl (lv_at hl 0 rfl) ?_
    refine lv_dup hx hb dX1_restoreLatest_23 rfl ?_
    refine x_get hx hb (C := RX1) (T := TX1) (N := 3) (ci := 1) hts iX1 hown hK hP 12 rfl rfl 0 (by decide) wd1 rfl (.int sv) rfl dX1_restoreLatest_24 ?_
    refine lv_iconst (v := 1) hx hb dX1_restoreLatest_27 (by decide) ?_
    refine lv_isub hx hb dX1_restoreLatest_28 ?_
    refine x_topi esv ?_
    refine x_put hx hb (C := RX1) (T := TX1) (N := 3) (ci := 1) hts iX1 tyX1 tyX1_ok nmX1 hown hK hP hD hS 12 rfl rfl 0 (by decide) wd1 rfl rfl (ty := .int) rfl rfl rfl (Nat.le_of_ble_eq_true rfl) (w' := wX5 cy s0 s1 s2 s3 s4 s5 s6 s7 s8 s9 s10 s11 Asz Anu Aba Amo Aco Hsz Hla Hce Bsz Bla Bce Tma Tlc Ttc day lim low hig thr off cre rcp pay ++ wX1 cy hd sv1 nx1 SL) rfl dX1_restoreLatest_29 (fun H locs hP hD hS => ?_)
    refine lv_aload_n hx hb dX1_restoreLatest_32 rfl (lv_at hl 0 rfl) ?_
    refine lv_aload_n hx hb dX1_restoreLatest_33 rfl (lv_at hl 0 rfl) ?_
    refine x_get hx hb (C := RX1) (T := TX1) (N := 3) (ci := 1) hts iX1 hown hK hP 12 rfl rfl 1 (by decide) wd0 rfl (.int nx1) rfl dX1_restoreLatest_34 ?_
    refine x_callVq (As := [.int nx1]) (rest := []) ⟨hx, hb, hml, hown, hts⟩ (mX1_slotAt l D cy hd sv1 nx1 SL nx1 _ (slotAt_ok hd hi)) (cwV 1 hts (gcV_X1_slotAt hbg wm_5_0) rfl rfl rfl kdX1_slotAt ⟨Nat.le_of_ble_eq_true rfl, Nat.le_of_ble_eq_true rfl⟩) (w1 := wX5 cy s0 s1 s2 s3 s4 s5 s6 s7 s8 s9 s10 s11 Asz Anu Aba Amo Aco Hsz Hla Hce Bsz Bla Bce Tma Tlc Ttc day lim low hig thr off cre rcp pay) (w2 := []) (w' := wX5 cy s0 s1 s2 s3 s4 s5 s6 s7 s8 s9 s10 s11 Asz Anu Aba Amo Aco Hsz Hla Hce Bsz Bla Bce Tma Tlc Ttc day lim low hig thr off cre rcp pay ++ wX1 cy hd sv1 nx1 SL) (x_end rfl) (x_end rfl) hP hK hD hN hS hA (q0 := 0) rfl rfl rfl rfl hl rfl (Nat.le_of_ble_eq_true rfl) dX1_restoreLatest_37 ⟨Nat.zero_le _, Nat.zero_le _⟩ (fun H locs hP hD hS => ?_)
    refine lv_astore_n (x := hd (2 + 12 * nx1.toNatClampNeg)) (lv' := [(2, .ref (hd (2 + 12 * nx1.toNatClampNeg))), (0, .ref (hd 0)), (1, .ref s0)]) hx hb dX1_restoreLatest_40 rfl hl (by decide) rfl (fun ls hl => ?_)
    refine lv_aload_n hx hb dX1_restoreLatest_41 rfl (lv_at hl 0 rfl) ?_
    refine lv_ifnull hx hb dX1_restoreLatest_42 ?_
    refine lv_aload_n hx hb dX1_restoreLatest_45 rfl (lv_at hl 2 rfl) ?_
    refine lv_aload_n hx hb dX1_restoreLatest_46 rfl (lv_at hl 0 rfl) ?_
    have hpm : (wXS cy (sl hd nx1.toNatClampNeg) (SL nx1.toNatClampNeg) ++ rest).Perm (blk (fun j => wXS cy (sl hd j) (SL j)) 7) := by
      have h := hrest (SL nx1.toNatClampNeg)
      rw [up_self] at h
      exact h
    refine x_callPv (As := [.ref (hd (2 + 12 * nx1.toNatClampNeg))]) (rest := []) ⟨hx, hb, hml, hown, hts⟩ (mX5_copyFrom l D cy s0 s1 s2 s3 s4 s5 s6 s7 s8 s9 s10 s11 (sl hd nx1.toNatClampNeg 0) (sl hd nx1.toNatClampNeg 1) (sl hd nx1.toNatClampNeg 2) (sl hd nx1.toNatClampNeg 3) (sl hd nx1.toNatClampNeg 4) (sl hd nx1.toNatClampNeg 5) (sl hd nx1.toNatClampNeg 6) (sl hd nx1.toNatClampNeg 7) (sl hd nx1.toNatClampNeg 8) (sl hd nx1.toNatClampNeg 9) (sl hd nx1.toNatClampNeg 10) (sl hd nx1.toNatClampNeg 11) Asz Anu Aba Amo Aco Hsz Hla Hce Bsz Bla Bce Tma Tlc Ttc day lim low hig thr off cre rcp pay (SL nx1.toNatClampNeg).1 (SL nx1.toNatClampNeg).2.1 (SL nx1.toNatClampNeg).2.2.1 (SL nx1.toNatClampNeg).2.2.2.1 (SL nx1.toNatClampNeg).2.2.2.2.1 (SL nx1.toNatClampNeg).2.2.2.2.2.1 (SL nx1.toNatClampNeg).2.2.2.2.2.2.1 (SL nx1.toNatClampNeg).2.2.2.2.2.2.2.1 (SL nx1.toNatClampNeg).2.2.2.2.2.2.2.2.1 (SL nx1.toNatClampNeg).2.2.2.2.2.2.2.2.2.1 (SL nx1.toNatClampNeg).2.2.2.2.2.2.2.2.2.2.1 (SL nx1.toNatClampNeg).2.2.2.2.2.2.2.2.2.2.2.1 (SL nx1.toNatClampNeg).2.2.2.2.2.2.2.2.2.2.2.2.1 (SL nx1.toNatClampNeg).2.2.2.2.2.2.2.2.2.2.2.2.2.1 (SL nx1.toNatClampNeg).2.2.2.2.2.2.2.2.2.2.2.2.2.2.1 (SL nx1.toNatClampNeg).2.2.2.2.2.2.2.2.2.2.2.2.2.2.2.1 (SL nx1.toNatClampNeg).2.2.2.2.2.2.2.2.2.2.2.2.2.2.2.2.1 (SL nx1.toNatClampNeg).2.2.2.2.2.2.2.2.2.2.2.2.2.2.2.2.2.1 (SL nx1.toNatClampNeg).2.2.2.2.2.2.2.2.2.2.2.2.2.2.2.2.2.2.1 (SL nx1.toNatClampNeg).2.2.2.2.2.2.2.2.2.2.2.2.2.2.2.2.2.2.2.1 (SL nx1.toNatClampNeg).2.2.2.2.2.2.2.2.2.2.2.2.2.2.2.2.2.2.2.2.1 (SL nx1.toNatClampNeg).2.2.2.2.2.2.2.2.2.2.2.2.2.2.2.2.2.2.2.2.2.1 (SL nx1.toNatClampNeg).2.2.2.2.2.2.2.2.2.2.2.2.2.2.2.2.2.2.2.2.2.2 (SL nx1.toNatClampNeg).1 (SL nx1.toNatClampNeg).2.1 (SL nx1.toNatClampNeg).2.2.1 (SL nx1.toNatClampNeg).2.2.2.1 (SL nx1.toNatClampNeg).2.2.2.2.1 (SL nx1.toNatClampNeg).2.2.2.2.2.1 (SL nx1.toNatClampNeg).2.2.2.2.2.2.1 (SL nx1.toNatClampNeg).2.2.2.2.2.2.2.1 (SL nx1.toNatClampNeg).2.2.2.2.2.2.2.2.1 (SL nx1.toNatClampNeg).2.2.2.2.2.2.2.2.2.1 (SL nx1.toNatClampNeg).2.2.2.2.2.2.2.2.2.2.1 (SL nx1.toNatClampNeg).2.2.2.2.2.2.2.2.2.2.2.1 (SL nx1.toNatClampNeg).2.2.2.2.2.2.2.2.2.2.2.2.1 (SL nx1.toNatClampNeg).2.2.2.2.2.2.2.2.2.2.2.2.2.1 (SL nx1.toNatClampNeg).2.2.2.2.2.2.2.2.2.2.2.2.2.2.1 (SL nx1.toNatClampNeg).2.2.2.2.2.2.2.2.2.2.2.2.2.2.2.1 (SL nx1.toNatClampNeg).2.2.2.2.2.2.2.2.2.2.2.2.2.2.2.2.1 (SL nx1.toNatClampNeg).2.2.2.2.2.2.2.2.2.2.2.2.2.2.2.2.2.1 (SL nx1.toNatClampNeg).2.2.2.2.2.2.2.2.2.2.2.2.2.2.2.2.2.2.1 (SL nx1.toNatClampNeg).2.2.2.2.2.2.2.2.2.2.2.2.2.2.2.2.2.2.2.1 (SL nx1.toNatClampNeg).2.2.2.2.2.2.2.2.2.2.2.2.2.2.2.2.2.2.2.2.1 (SL nx1.toNatClampNeg).2.2.2.2.2.2.2.2.2.2.2.2.2.2.2.2.2.2.2.2.2.1 (SL nx1.toNatClampNeg).2.2.2.2.2.2.2.2.2.2.2.2.2.2.2.2.2.2.2.2.2.2 rfl) (cwV 1 hts (gcV_X5_copyFrom hbg wm_5_4) rfl rfl rfl kdX5_copyFrom ⟨Nat.le_of_ble_eq_true rfl, Nat.le_of_ble_eq_true rfl⟩) (wr := ([(hd 0, .inr (1, [.int sv1, .int nx1, .ref (hd 1)])), (hd 1, .inl (cy 3, 7, .inr (.inr (.inr (.inr (fun k => some (hd (2 + 12 * k))))))))] : va_W) ++ rest) (w' := wX5 cy s0 s1 s2 s3 s4 s5 s6 s7 s8 s9 s10 s11 (SL nx1.toNatClampNeg).1 (SL nx1.toNatClampNeg).2.1 (SL nx1.toNatClampNeg).2.2.1 (SL nx1.toNatClampNeg).2.2.2.1 (SL nx1.toNatClampNeg).2.2.2.2.1 (SL nx1.toNatClampNeg).2.2.2.2.2.1 (SL nx1.toNatClampNeg).2.2.2.2.2.2.1 (SL nx1.toNatClampNeg).2.2.2.2.2.2.2.1 (SL nx1.toNatClampNeg).2.2.2.2.2.2.2.2.1 (SL nx1.toNatClampNeg).2.2.2.2.2.2.2.2.2.1 (SL nx1.toNatClampNeg).2.2.2.2.2.2.2.2.2.2.1 (SL nx1.toNatClampNeg).2.2.2.2.2.2.2.2.2.2.2.1 (SL nx1.toNatClampNeg).2.2.2.2.2.2.2.2.2.2.2.2.1 (SL nx1.toNatClampNeg).2.2.2.2.2.2.2.2.2.2.2.2.2.1 (SL nx1.toNatClampNeg).2.2.2.2.2.2.2.2.2.2.2.2.2.2.1 (SL nx1.toNatClampNeg).2.2.2.2.2.2.2.2.2.2.2.2.2.2.2.1 (SL nx1.toNatClampNeg).2.2.2.2.2.2.2.2.2.2.2.2.2.2.2.2.1 (SL nx1.toNatClampNeg).2.2.2.2.2.2.2.2.2.2.2.2.2.2.2.2.2.1 (SL nx1.toNatClampNeg).2.2.2.2.2.2.2.2.2.2.2.2.2.2.2.2.2.2.1 (SL nx1.toNatClampNeg).2.2.2.2.2.2.2.2.2.2.2.2.2.2.2.2.2.2.2.1 (SL nx1.toNatClampNeg).2.2.2.2.2.2.2.2.2.2.2.2.2.2.2.2.2.2.2.2.1 (SL nx1.toNatClampNeg).2.2.2.2.2.2.2.2.2.2.2.2.2.2.2.2.2.2.2.2.2.1 (SL nx1.toNatClampNeg).2.2.2.2.2.2.2.2.2.2.2.2.2.2.2.2.2.2.2.2.2.2 ++ wX1 cy hd sv1 nx1 SL) (perm_in2 _ _ _ _ _ hpm) (perm_in2 _ _ _ _ _ hpm) hP hK hD hN hS hA (q0 := 0) rfl rfl rfl rfl hl rfl (Nat.le_of_ble_eq_true rfl) dX1_restoreLatest_47 ⟨Nat.zero_le _, Nat.zero_le _⟩ (fun H locs hP hD hS => ?_)
    refine lv_aload_n hx hb dX1_restoreLatest_50 rfl (lv_at hl 1 rfl) ?_
    refine x_get hx hb (C := RX1) (T := TX1) (N := 3) (ci := 1) hts iX1 hown hK hP 12 rfl rfl 0 (by decide) wd1 rfl (.int sv1) rfl dX1_restoreLatest_51 ?_
    exact x_iret hx hb hr hlocks hK hP hD hS dX1_restoreLatest_54
  cases hf
  refine lv_aload_n hx hb dX1_restoreLatest_0 rfl (lv_at hl 0 rfl) ?_
  refine lv_aload_n hx hb dX1_restoreLatest_1 rfl (lv_at hl 0 rfl) ?_
  refine x_get hx hb (C := RX1) (T := TX1) (N := 3) (ci := 1) hts iX1 hown hK hP 12 rfl rfl 1 (by decide) wd0 rfl (.int nx) rfl dX1_restoreLatest_2 ?_
  refine lv_if_le (tgt := 17) hx hb dX1_restoreLatest_5 (by decide) (fun c1 => ?_) (fun c1 => ?_)
  · refine lv_bipush (v := 6) hx hb dX1_restoreLatest_17 (by decide) ?_
    refine x_topi (enx.trans (if_neg (Int32.not_lt.mpr c1))) ?_
    exact hgo ls hl
  · refine lv_aload_n hx hb dX1_restoreLatest_8 rfl (lv_at hl 0 rfl) ?_
    refine x_get hx hb (C := RX1) (T := TX1) (N := 3) (ci := 1) hts iX1 hown hK hP 12 rfl rfl 1 (by decide) wd0 rfl (.int nx) rfl dX1_restoreLatest_9 ?_
    refine lv_iconst (v := 1) hx hb dX1_restoreLatest_12 (by decide) ?_
    refine lv_isub hx hb dX1_restoreLatest_13 ?_
    refine lv_goto (tgt := 19) hx hb dX1_restoreLatest_14 (by decide) ?_
    refine x_topi (enx.trans (if_pos (Int32.not_le.mp c1))) ?_
    exact hgo ls hl
