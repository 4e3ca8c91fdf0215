theorem blk_cong {f g : Nat → va_W} : ∀ (n : Nat), (∀ k, k < n → f k = g k) → blk f n = blk g n
  | 0, _ => rfl
  | n + 1, h => by
    show blk f n ++ f n = blk g n ++ g n
    rw [blk_cong n (fun k hk => h k (Nat.lt_succ_of_lt hk)), h n (Nat.lt_succ_self n)]
theorem blk_out (f : Nat → va_W) : ∀ (n k : Nat), k < n → ∃ rest, ∀ g : Nat → va_W, (∀ j, j < n → j ≠ k → g j = f j) → (g k ++ rest).Perm (blk g n) := by
  intro n
  induction n with
  | zero => intro k hk; exact absurd hk (Nat.not_lt_zero k)
  | succ n ih =>
    intro k hk
    by_cases e : k = n
    · subst e
      refine ⟨blk f k, fun g hg => ?_⟩
      show (g k ++ blk f k).Perm (blk g k ++ g k)
      rw [blk_cong k (fun j hj => hg j (Nat.lt_succ_of_lt hj) (Nat.ne_of_lt hj))]
      exact List.perm_append_comm
    · obtain ⟨rest, hr⟩ := ih k (by omega)
      refine ⟨rest ++ f n, fun g hg => ?_⟩
      show (g k ++ (rest ++ f n)).Perm (blk g n ++ g n)
      rw [hg n (Nat.lt_succ_self n) (fun z => e z.symm), ← List.append_assoc]
      exact (hr g (fun j hj hne => hg j (Nat.lt_succ_of_lt hj) hne)).append_right _
theorem slot_perm (cy : Nat → ClassId) (hd : Nat → Nat) (SL : Nat → XS) (k : Nat) (hk : k < 7) : ∃ rest, ∀ σ : XS, (wXS cy (sl hd k) σ ++ rest).Perm (blk (fun j => wXS cy (sl hd j) (va_up SL k σ j)) 7) := by
  obtain ⟨rest, hr⟩ := blk_out (fun j => wXS cy (sl hd j) (SL j)) 7 k hk
  refine ⟨rest, fun σ => ?_⟩
  have h := hr (fun j => wXS cy (sl hd j) (va_up SL k σ j)) (fun j hj hne => by show wXS cy (sl hd j) (va_up SL k σ j) = wXS cy (sl hd j) (SL j); rw [va_up_ne _ _ hne])
  have e : va_up SL k σ k = σ := by simp [va_up]
  have h : (wXS cy (sl hd k) (va_up SL k σ k) ++ rest).Perm (blk (fun j => wXS cy (sl hd j) (va_up SL k σ j)) 7) := h
  rw [e] at h
  exact h
theorem up_self (SL : Nat → XS) (k : Nat) : va_up SL k (SL k) = SL := by
  funext j
  by_cases e : j = k
  · subst e; simp [va_up]
  · exact va_up_ne _ _ e
theorem perm_in (S c B rest X : va_W) (h : (B ++ rest).Perm X) : ((B ++ S) ++ (c ++ rest)).Perm (S ++ (c ++ X)) := by
  have h1 : (B ++ (S ++ (c ++ rest))).Perm (S ++ (B ++ (c ++ rest))) := List.perm_append_comm_assoc _ _ _
  have h2 : (B ++ (c ++ rest)).Perm (c ++ (B ++ rest)) := List.perm_append_comm_assoc _ _ _
  rw [List.append_assoc]
  exact h1.trans ((h2.trans (h.append_left c)).append_left S)
theorem perm_in2 (S c B rest X : va_W) (h : (B ++ rest).Perm X) : ((S ++ B) ++ (c ++ rest)).Perm (S ++ (c ++ X)) := by
  have h2 : (B ++ (c ++ rest)).Perm (c ++ (B ++ rest)) := List.perm_append_comm_assoc _ _ _
  rw [List.append_assoc]
  exact (h2.trans (h.append_left c)).append_left S
theorem slotAt_ok (hd : Nat → Nat) {nx : Int32} (h : vp_in nx 7) : fX1_slotAt hd nx = some (some (hd (2 + 12 * nx.toNatClampNeg))) := by
  obtain ⟨j, hj, rfl⟩ := vp_in_of h (by decide)
  unfold fX1_slotAt ckI
  rw [if_neg (nI_pos (by omega)), if_neg (show ¬ (7 : Int32) ≤ nI j from nI_ge (a := j) (b := 7) hj (by omega)), if_neg h]
def rmX1_prepare : Room := { frames := 3, cells := 0, slots := 0, locals := 90 }
theorem kdX1_prepare : yX1_prepare.cls = RX1 ∧ yX1_prepare.cls ≠ "java/lang/invoke/MethodHandle" ∧ yX1_prepare.cls ≠ "java/lang/invoke/VarHandle" ∧ (parseMethodDescriptor yX1_prepare.desc).map (fun d => d.parameters.length) = some 1 := by decide +kernel
set_option maxHeartbeats 4000000 in
set_option maxRecDepth 100000 in
theorem mX1_prepare (l : Launch) (D : va_G) (cy : Nat → ClassId) (s0 s1 s2 s3 s4 s5 s6 s7 s8 s9 s10 s11 : Nat) (hd : Nat → Nat) (Asz : Int32) (Anu : Nat → Int32) (Aba : Nat → Int32) (Amo : Nat → Int32) (Aco : Nat → Int64) (Hsz : Int32) (Hla : Int32) (Hce : Nat → Int32) (Bsz : Int32) (Bla : Int32) (Bce : Nat → Int32) (Tma : Int32) (Tlc : Int32) (Ttc : Nat → Int32) (day : Int32) (lim : Int32) (low : Int32) (hig : Int32) (thr : Int32) (off : Int64) (cre : Int64) (rcp : Int64) (pay : Int64) (sv nx : Int32) (SL SL' : Nat → XS) (hf : fX1_prepare Asz Anu Aba Amo Aco Hsz Hla Hce Bsz Bla Bce Tma Tlc Ttc day lim low hig thr off cre rcp pay nx SL = some SL') : xMv l D cy yX1_prepare aX1_prepare rmX1_prepare ([.ref (hd 0), .ref s0] : List Value) (wX5 cy s0 s1 s2 s3 s4 s5 s6 s7 s8 s9 s10 s11 Asz Anu Aba Amo Aco Hsz Hla Hce Bsz Bla Bce Tma Tlc Ttc day lim low hig thr off cre rcp pay ++ wX1 cy hd sv nx SL) (wX5 cy s0 s1 s2 s3 s4 s5 s6 s7 s8 s9 s10 s11 Asz Anu Aba Amo Aco Hsz Hla Hce Bsz Bla Bce Tma Tlc Ttc day lim low hig thr off cre rcp pay ++ wX1 cy hd sv nx SL') := by
  intro hz
  refine x_start (Qc := xQv D cy _) (cc := cX1_prepare) (maxL := 3) (ret := none) (by decide) rfl (Nat.le_of_ble_eq_true rfl) (lv := [(0, .ref (hd 0)), (1, .ref s0)]) rfl ?_
  intro p e s m below meth c ls A hx hb hr hml hown hts hlocks hK hP hD hS hA hN hl
  have hown : s.vm.findClass RX1 = some m.cls := hown
  have hbg : ∀ w ∈ wsL_law, w ∈ aX1_prepare := fun w h => List.mem_cons_of_mem _ h
  have iX1 : ∀ w ∈ u_ws RX1 TX1 3, w ∈ aX1_prepare := fun w h => List.mem_cons_of_mem _ (inlX1 w h)
  have wd0 : (Cond.fieldLink RX1 15 "ClientMoneyBook$History" "next" "I").before ([.ref (hd 0), .ref s0] : List Value).toArray s = true := hts _ (List.mem_cons_of_mem _ wm_3_17)
  unfold fX1_prepare at hf
  obtain ⟨hi, hf⟩ := ckI_el hf
  cases hf
  obtain ⟨kn, hkn, ekn⟩ := vp_in_of hi (by decide)
  have hlt : nx.toNatClampNeg < 7 := by rw [ekn, nI_clamp (by omega)]; exact hkn
  obtain ⟨rest, hrest⟩ := slot_perm cy hd SL nx.toNatClampNeg hlt
  have hpm : (wXS cy (sl hd nx.toNatClampNeg) (SL nx.toNatClampNeg) ++ rest).Perm (blk (fun j => wXS cy (sl hd j) (SL j)) 7) := by
    have h := hrest (SL nx.toNatClampNeg)
    rw [up_self] at h
    exact h
  refine lv_aload_n hx hb dX1_prepare_0 rfl (lv_at hl 0 rfl) ?_
  refine lv_aload_n hx hb dX1_prepare_1 rfl (lv_at hl 0 rfl) ?_
  refine x_get hx hb (C := RX1) (T := TX1) (N := 3) (ci := 1) hts iX1 hown hK hP 12 rfl rfl 1 (by decide) wd0 rfl (.int nx) rfl dX1_prepare_2 ?_
  refine x_callVq (As := [.int nx]) (rest := []) ⟨hx, hb, hml, hown, hts⟩ (mX1_slotAt l D cy hd sv nx SL nx _ (slotAt_ok hd hi)) (cwV 1 hts (gcV_X1_slotAt hbg wm_5_7) rfl rfl rfl kdX1_slotAt ⟨Nat.le_of_ble_eq_true rfl, Nat.le_of_ble_eq_true rfl⟩) (w1 := wX5 cy s0 s1 s2 s3 s4 s5 s6 s7 s8 s9 s10 s11 Asz Anu Aba Amo Aco Hsz Hla Hce Bsz Bla Bce Tma Tlc Ttc day lim low hig thr off cre rcp pay) (w2 := []) (w' := wX5 cy s0 s1 s2 s3 s4 s5 s6 s7 s8 s9 s10 s11 Asz Anu Aba Amo Aco Hsz Hla Hce Bsz Bla Bce Tma Tlc Ttc day lim low hig thr off cre rcp pay ++ wX1 cy hd sv nx SL) (x_end rfl) (x_end rfl) hP hK hD hN hS hA (q0 := 0) rfl rfl rfl rfl hl rfl (Nat.le_of_ble_eq_true rfl) dX1_prepare_5 ⟨Nat.zero_le _, Nat.zero_le _⟩ (fun H locs hP hD hS => ?_)
  refine lv_astore_n (x := hd (2 + 12 * nx.toNatClampNeg)) (lv' := [(2, .ref (hd (2 + 12 * nx.toNatClampNeg))), (0, .ref (hd 0)), (1, .ref s0)]) hx hb dX1_prepare_8 rfl hl (by decide) rfl (fun ls hl => ?_)
  refine lv_aload_n hx hb dX1_prepare_9 rfl (lv_at hl 0 rfl) ?_
  refine lv_ifnull hx hb dX1_prepare_10 ?_
  refine lv_aload_n hx hb dX1_prepare_13 rfl (lv_at hl 0 rfl) ?_
  refine lv_aload_n hx hb dX1_prepare_14 rfl (lv_at hl 2 rfl) ?_
  refine x_callPv (As := [.ref s0]) (rest := []) ⟨hx, hb, hml, hown, hts⟩ (mX5_copyFrom l D cy (sl hd nx.toNatClampNeg 0) (sl hd nx.toNatClampNeg 1) (sl hd nx.toNatClampNeg 2) (sl hd nx.toNatClampNeg 3) (sl hd nx.toNatClampNeg 4) (sl hd nx.toNatClampNeg 5) (sl hd nx.toNatClampNeg 6) (sl hd nx.toNatClampNeg 7) (sl hd nx.toNatClampNeg 8) (sl hd nx.toNatClampNeg 9) (sl hd nx.toNatClampNeg 10) (sl hd nx.toNatClampNeg 11) s0 s1 s2 s3 s4 s5 s6 s7 s8 s9 s10 s11 (SL nx.toNatClampNeg).1 (SL nx.toNatClampNeg).2.1 (SL nx.toNatClampNeg).2.2.1 (SL nx.toNatClampNeg).2.2.2.1 (SL nx.toNatClampNeg).2.2.2.2.1 (SL nx.toNatClampNeg).2.2.2.2.2.1 (SL nx.toNatClampNeg).2.2.2.2.2.2.1 (SL nx.toNatClampNeg).2.2.2.2.2.2.2.1 (SL nx.toNatClampNeg).2.2.2.2.2.2.2.2.1 (SL nx.toNatClampNeg).2.2.2.2.2.2.2.2.2.1 (SL nx.toNatClampNeg).2.2.2.2.2.2.2.2.2.2.1 (SL nx.toNatClampNeg).2.2.2.2.2.2.2.2.2.2.2.1 (SL nx.toNatClampNeg).2.2.2.2.2.2.2.2.2.2.2.2.1 (SL nx.toNatClampNeg).2.2.2.2.2.2.2.2.2.2.2.2.2.1 (SL nx.toNatClampNeg).2.2.2.2.2.2.2.2.2.2.2.2.2.2.1 (SL nx.toNatClampNeg).2.2.2.2.2.2.2.2.2.2.2.2.2.2.2.1 (SL nx.toNatClampNeg).2.2.2.2.2.2.2.2.2.2.2.2.2.2.2.2.1 (SL nx.toNatClampNeg).2.2.2.2.2.2.2.2.2.2.2.2.2.2.2.2.2.1 (SL nx.toNatClampNeg).2.2.2.2.2.2.2.2.2.2.2.2.2.2.2.2.2.2.1 (SL nx.toNatClampNeg).2.2.2.2.2.2.2.2.2.2.2.2.2.2.2.2.2.2.2.1 (SL nx.toNatClampNeg).2.2.2.2.2.2.2.2.2.2.2.2.2.2.2.2.2.2.2.2.1 (SL nx.toNatClampNeg).2.2.2.2.2.2.2.2.2.2.2.2.2.2.2.2.2.2.2.2.2.1 (SL nx.toNatClampNeg).2.2.2.2.2.2.2.2.2.2.2.2.2.2.2.2.2.2.2.2.2.2 Asz Anu Aba Amo Aco Hsz Hla Hce Bsz Bla Bce Tma Tlc Ttc day lim low hig thr off cre rcp pay Asz Anu Aba Amo Aco Hsz Hla Hce Bsz Bla Bce Tma Tlc Ttc day lim low hig thr off cre rcp pay rfl) (cwV 1 hts (gcV_X5_copyFrom hbg wm_5_11) rfl rfl rfl kdX5_copyFrom ⟨Nat.le_of_ble_eq_true rfl, Nat.le_of_ble_eq_true rfl⟩) (wr := ([(hd 0, .inr (1, [.int sv, .int nx, .ref (hd 1)])), (hd 1, .inl (cy 3, 7, .inr (.inr (.inr (.inr (fun k => some (hd (2 + 12 * k))))))))] : va_W) ++ rest) (w' := wX5 cy s0 s1 s2 s3 s4 s5 s6 s7 s8 s9 s10 s11 Asz Anu Aba Amo Aco Hsz Hla Hce Bsz Bla Bce Tma Tlc Ttc day lim low hig thr off cre rcp pay ++ wX1 cy hd sv nx (va_up SL nx.toNatClampNeg (Asz, Anu, Aba, Amo, Aco, Hsz, Hla, Hce, Bsz, Bla, Bce, Tma, Tlc, Ttc, day, lim, low, hig, thr, off, cre, rcp, pay))) (perm_in _ _ _ _ _ hpm) (perm_in _ _ _ _ _ (hrest (Asz, Anu, Aba, Amo, Aco, Hsz, Hla, Hce, Bsz, Bla, Bce, Tma, Tlc, Ttc, day, lim, low, hig, thr, off, cre, rcp, pay))) hP hK hD hN hS hA (q0 := 0) rfl rfl rfl rfl hl rfl (Nat.le_of_ble_eq_true rfl) dX1_prepare_15 ⟨Nat.zero_le _, Nat.zero_le _⟩ (fun H locs hP hD hS => ?_)
  exact x_vret hx hb hr hlocks hK hP hD hS dX1_prepare_18
