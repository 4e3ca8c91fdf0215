/-! THE CLAIM OUT OF ONE WALK OF THE LAW'S BODY. Your part is whole_start (and what it stands on); all else here is the same for every law, but numbers. -/
def R_law : String := "ClientMoneyBookLaw"
def lw_P (b : Addr) (xs : List Int32) (args : Array Value) (s : State) : Prop := args = #[.ref b] ∧ s.IntsAt b xs ∧ xs.length ≤ 260 ∧ (Jvm.Cond.and given_1 narrow_1).before args s = true
def lw_Q (_ : Array Value) (s : State) (o : Outcome) (t : State) : Prop := o = .returned (some (.int 1)) ∧ Framed s o t [] 600000 7302250
def lw_Z (below : List Frame) (a : Array Value) (s : State) : State → Prop := fun t => ∃ o, t.status = .running ∧ Ended t below o ∧ lw_Q a s o t
/-- the law's own end, with 1 on the stack, nothing written that was there before, its room as the claim has it -/
theorem lw_ret {p : Program} {l : Launch} {e : Env} {s : State} {m : MethodId} {below : List Frame} {meth : Method} {c : Code} {b : Nat} (hx : p.tables.exec = Jvm.exec) (hb : c.code = code) (hr : meth.sig.returnType = ret) (hlocks : meth.locks = false) {pc : Nat} {H : Heap} {ls : Array Slot} (hdg : decode code pc = .ok (.ireturn, 1)) : W p l e room_1 s m #[Value.ref b] below meth c H [] 600000 7302250 (lw_Z below #[Value.ref b] s) (F0 m pc ls [.int 1]) := by
  intro T hT X
  obtain ⟨fs, hret, hrun, hended, hW, hframe⟩ := X.leave (v := some (.int 1)) (hlocks := hlocks) (fun h => by rw [hr] at h; cases h)
  have hmeth' : T.vm.method? m = some meth := X.method'
  refine ⟨T.setFrames fs, ?_, .returned (some (.int 1)), hrun, hended, rfl, ⟨_, rfl⟩, hW, hframe⟩
  jvm_step X.here [X.here.top, hx, hb, hdg, hmeth', hr, ret, narrow_b1]
  (try refine ⟨rfl, ?_⟩); (try refine ⟨rfl, ?_⟩)
  first | (intro acts; rw [hret _ acts rfl rfl rfl]) | rw [hret _ _ rfl rfl rfl]
  exact Steps.refl _
/-- what holds at the law's entry: the machine, the code, the tables' words (any of lw_tbl by 'hts w (by decide +kernel)'), the script of L ints xs at the cell b, what the Statement gives of the start (any of its parts by flat_of_before) -/
def lw_At (p : Program) (s : State) (m : MethodId) (meth : Method) (c : Code) (b L : Nat) (xs : Nat → Int32) : Prop :=
  p.tables.exec = Jvm.exec ∧ c.code = code ∧ meth.sig.returnType = ret ∧ c.maxLocals = 27 ∧ s.vm.findClass R_law = some m.cls ∧ (∀ w ∈ lw_tbl, w.before #[Value.ref b] s = true) ∧ va_X b L xs s s.heap ∧ b < s.heap.size ∧ meth.locks = false ∧ (Jvm.Cond.and given_1 narrow_1).before #[Value.ref b] s = true
theorem arr_of {s : State} {c : ClassId} {k : Class} {comp : ClassId} {ty : FieldType} (hk : s.vm.classes[c]? = some k) (hkind : k.kind = .array comp ty) : ArrOfT s c ty := fun n z => by
  unfold State.isArrayOf
  exact ⟨fun _ h => (by cases h), k, hk, comp, hkind⟩
theorem s_perm (X q m h b e : va_W) : (((((X ++ q) ++ m) ++ h) ++ b) ++ e).Perm (e ++ (m ++ (q ++ (h ++ (b ++ X))))) := by
  have h1 : (((((X ++ q) ++ m) ++ h) ++ b) ++ e).Perm (e ++ ((((X ++ q) ++ m) ++ h) ++ b)) := List.perm_append_comm
  refine h1.trans (List.Perm.append_left e ?_)
  have h2 : ((((X ++ q) ++ m) ++ h) ++ b).Perm (m ++ (((X ++ q) ++ h) ++ b)) := by
    have g : (((X ++ q) ++ m) ++ (h ++ b)).Perm ((m ++ (X ++ q)) ++ (h ++ b)) := List.Perm.append_right _ List.perm_append_comm
    simpa only [List.append_assoc] using g
  refine h2.trans (List.Perm.append_left m ?_)
  have h3 : (((X ++ q) ++ h) ++ b).Perm (q ++ ((X ++ h) ++ b)) := by
    have g : ((X ++ q) ++ (h ++ b)).Perm ((q ++ X) ++ (h ++ b)) := List.Perm.append_right _ List.perm_append_comm
    simpa only [List.append_assoc] using g
  refine h3.trans (List.Perm.append_left q ?_)
  have h4 : ((X ++ h) ++ b).Perm ((h ++ X) ++ b) := List.Perm.append_right _ List.perm_append_comm
  have h5 : (h ++ (X ++ b)).Perm (h ++ (b ++ X)) := List.Perm.append_left h List.perm_append_comm
  rw [List.append_assoc h X b] at h4
  exact h4.trans h5
set_option maxHeartbeats 8000000 in
set_option maxRecDepth 100000 in
theorem whole_start {p : Program} {e : Env} {s : State} {m : MethodId} {below : List Frame} {meth : Method} {c : Code} (l : Launch) (hflags : l.flags = flags0) {b L : Nat} {xs : Nat → Int32} (hL : L ≤ 260) (C0 : lw_At p s m meth c b L xs) : W p l e room_1 s m #[Value.ref b] below meth c s.heap [] 0 0 (lw_Z below #[Value.ref b] s) (entryFrame m ([Value.ref b] : List Value).toArray 27) := by
  obtain ⟨hx, hb, hr, hml, hown, hts0, hX, hbl, hlocks, hgv⟩ := C0
  have htl : ∀ w ∈ wsL_law, w.before #[Value.ref b] s = true := fun w h => hts0 w (wsL_law_in w h)
  have hA : ∀ q : Nat, s.heap.size ≤ q → (fun q : Nat => s.heap.size ≤ q) q := fun _ h => h
  obtain ⟨c0, i0, k0⟩ := u_known (C := RX0) (T := TX0) (N := 5) (n := 5) hts0 inX0 (htl (Cond.instantiable RX0 5) wm_1_18)
  obtain ⟨c1, i1, k1⟩ := u_known (C := RX1) (T := TX1) (N := 3) (n := 3) hts0 inX1 (htl (Cond.instantiable RX1 3) wm_1_3)
  obtain ⟨c2, i2, k2⟩ := u_known (C := RX2) (T := TX2) (N := 7) (n := 7) hts0 inX2 (htl (Cond.instantiable RX2 7) wm_1_7)
  obtain ⟨c3, i3, k3⟩ := u_known (C := RX3) (T := TX3) (N := 3) (n := 3) hts0 inX3 (htl (Cond.instantiable RX3 3) wm_1_11)
  obtain ⟨c4, i4, k4⟩ := u_known (C := RX4) (T := TX4) (N := 3) (n := 3) hts0 inX4 (htl (Cond.instantiable RX4 3) wm_1_22)
  obtain ⟨c5, i5, k5⟩ := u_known (C := RX5) (T := TX5) (N := 13) (n := 13) hts0 inX5 (htl (Cond.instantiable RX5 13) wm_0_23)
  obtain ⟨c6, i6, k6⟩ := u_known (C := RX6) (T := TX6) (N := 3) (n := 3) hts0 inX6 (htl (Cond.instantiable RX6 3) wm_2_3)
  obtain ⟨c7, i7, k7⟩ := u_known (C := RX7) (T := TX7) (N := 4) (n := 4) hts0 inX7 (htl (Cond.instantiable RX7 4) wm_0_1)
  have tb : ∀ w ∈ tables_1, w.before #[Value.ref b] s = true := fun w h => hts0 w (List.mem_append_right _ h)
  obtain ⟨g0, gk0, gc0, gf0, gh0, gd0⟩ := Cond.arrayClass_spec (htl (Cond.arrayClass .char) wm_4_0)
  obtain ⟨g1, gk1, gc1, gf1, gh1, gd1⟩ := Cond.arrayClass_spec (htl (Cond.arrayClass .int) wm_0_3)
  obtain ⟨g2, gk2, gc2, gf2, gh2, gd2⟩ := Cond.arrayClass_spec (htl (Cond.arrayClass .long) wm_0_4)
  have hAO0 : (Cond.arrayOver (.object "ClientMoneyBook$State")).before #[Value.ref b] s = true := tb _ (by decide +kernel)
  obtain ⟨g3c, g3, g3k, gf3a, gf3i, gf3b, gf3d, gf3⟩ := Cond.arrayOver_spec hAO0
  obtain ⟨dC, dI, hKc⟩ : ∃ (dC : Nat → ClassId) (dI : Nat → Nat → Nat), ∀ (k : Nat) (q : vw_C), vwCl[k]? = some q → u_Kn s q.1 q.2.1 q.2.2 (dC k) (dI k) := by
    refine ⟨fun k => if k = 0 then c0 else if k = 1 then c1 else if k = 2 then c2 else if k = 3 then c3 else if k = 4 then c4 else if k = 5 then c5 else if k = 6 then c6 else c7, fun k => if k = 0 then i0 else if k = 1 then i1 else if k = 2 then i2 else if k = 3 then i3 else if k = 4 then i4 else if k = 5 then i5 else if k = 6 then i6 else i7, ?_⟩
    intro k q hq
    match k, hq with
    | 0, hq => cases hq; exact k0
    | 1, hq => cases hq; exact k1
    | 2, hq => cases hq; exact k2
    | 3, hq => cases hq; exact k3
    | 4, hq => cases hq; exact k4
    | 5, hq => cases hq; exact k5
    | 6, hq => cases hq; exact k6
    | 7, hq => cases hq; exact k7
    | k + 8, hq => simp [vwCl] at hq
  obtain ⟨cy, hcy⟩ : ∃ cy : Nat → ClassId, cy = fun k => if k = 0 then g0 else if k = 1 then g1 else if k = 2 then g2 else g3 := ⟨_, rfl⟩
  have hK : va_K (dC, dI) vwCl (xTy cy) s := by
    refine ⟨hKc, fun k q h => ?_⟩
    subst hcy
    match k, h with
    | 0, h => cases h; exact ⟨arr_of gh0 gd0, gf0⟩
    | 1, h => cases h; exact ⟨arr_of gh1 gd1, gf1⟩
    | 2, h => cases h; exact ⟨arr_of gh2 gd2, gf2⟩
    | 3, h => cases h; exact ⟨arr_of gf3b gf3d, g3k, g3c, gf3b, gf3d, gf3a, gf3⟩
    | k + 4, h => simp [xTy] at h
  have hnb : ∀ q ∈ nb_l, va_Nw (.methodLinkNest q.1 q.2.1 q.2.2 RX7) s := by
    intro q hq
    have hm : (Cond.methodLinkNest q.1 q.2.1 q.2.2 RX7) ∈ tables_1 := by
      have key : ∀ q ∈ nb_l, (Cond.methodLinkNest q.1 q.2.1 q.2.2 RX7) ∈ tables_1 := by decide +kernel
      exact key q hq
    exact va_Nw.of rfl (tb _ hm)
  have hN : nb_ok (fun q : Nat => s.heap.size ≤ q) s := ⟨⟨hnb, va_AO.of hAO0⟩, trivial⟩
  have hP0 : va_P (dC, dI) vwCl [] s.heap := nil_P
  have hD0 : va_D (fun q : Nat => s.heap.size ≤ q) [] := nil_D
  have hS : va_S (fun q : Nat => s.heap.size ≤ q) s.heap s.heap [] := va_S.rf
  have hl := lv_entry ([.ref b]) (n := 27) (Nat.le_of_ble_eq_true rfl)
  rw [lg_entry_eq]
  generalize (lg_sl ([.ref b]) ++ List.replicate (27 - (lg_sl ([.ref b])).length) Slot.unset).toArray = ls at hl ⊢
  have hl : lv_has ls 27 [(0, .ref b)] := hl
  refine x_newo (W' := fun a0 => ([(a0, .inr (7, [.null, .null, .null, .null]))] : va_W)) (C := RX7) (T := TX7) (N := 4) (ci := 7) hx hb hts0 inX7 tyX7 tyX7_ok hown (htl (Cond.classLink RL 41 RX7) wm_0_0) (htl (Cond.instantiable RX7 4) wm_0_1) (htl (Cond.initialized RX7) wm_0_2) hK hP0 hD0 hS hA rfl [.null, .null, .null, .null] (fun j hj => by rcases (show j = 0 ∨ j = 1 ∨ j = 2 ∨ j = 3 by omega) with rfl | rfl | rfl | rfl <;> rfl) (Nat.le_of_ble_eq_true rfl) (Nat.le_of_ble_eq_true rfl) (fun q => rfl) dL_law_0 (fun a0 H hP hD hS => ?_)
  refine lv_dup hx hb dL_law_3 rfl ?_
  refine x_callI ⟨hx, hb, hml, hown, htl⟩ (mX7_init l (dC, dI) cy a0) (cwI 0 htl (gcB_X7_init (fun _ h => h)) rfl rfl rfl (htl (Cond.initialized RX7) wm_0_2) (htl (Cond.methodLink RL 76 yX7_init) wm_0_16) (htl (Cond.instanceMethod yX7_init) wm_0_17) rfl kdX7_init ⟨Nat.le_of_ble_eq_true rfl, Nat.le_of_ble_eq_true rfl⟩) (w1 := []) (w2 := []) rfl hP hK hD hN hS hA hl rfl (Nat.le_of_ble_eq_true rfl) dL_law_4 ⟨Nat.le_of_ble_eq_true rfl, Nat.le_of_ble_eq_true rfl⟩ (fun u H locs hP hD hS => ?_)
  have hP : va_P (dC, dI) vwCl (wX7 cy a0 (u 0) (u 1) (u 2) (u 3) (u 4) (u 5) (u 6) (u 7) (u 8) (u 9) (u 10) (u 11) (u 12) (u 13) (u 14) (u 15) (u 16) (fun n => u (n + 17)) 0 (fun _ => 0) 0 0 0 0 0 0 (fun _ => 0) (fun _ => 0) 0 (fun _ => 0) (fun _ => 0) (fun _ => 0) (fun _ => 0) 0 0 (fun _ => 0) 0 0 (fun _ => 0) 0 7 (fun _ => 0) 0 100000 100 250 20 0 0 0 0 0 0 (fun _ => XS0)) H := (List.append_nil (as := (wX7 cy a0 (u 0) (u 1) (u 2) (u 3) (u 4) (u 5) (u 6) (u 7) (u 8) (u 9) (u 10) (u 11) (u 12) (u 13) (u 14) (u 15) (u 16) (fun n => u (n + 17)) 0 (fun _ => 0) 0 0 0 0 0 0 (fun _ => 0) (fun _ => 0) 0 (fun _ => 0) (fun _ => 0) (fun _ => 0) (fun _ => 0) 0 0 (fun _ => 0) 0 0 (fun _ => 0) 0 7 (fun _ => 0) 0 100000 100 250 20 0 0 0 0 0 0 (fun _ => XS0) : va_W))) ▸ hP
  have hD : va_D (fun q : Nat => s.heap.size ≤ q) (wX7 cy a0 (u 0) (u 1) (u 2) (u 3) (u 4) (u 5) (u 6) (u 7) (u 8) (u 9) (u 10) (u 11) (u 12) (u 13) (u 14) (u 15) (u 16) (fun n => u (n + 17)) 0 (fun _ => 0) 0 0 0 0 0 0 (fun _ => 0) (fun _ => 0) 0 (fun _ => 0) (fun _ => 0) (fun _ => 0) (fun _ => 0) 0 0 (fun _ => 0) 0 0 (fun _ => 0) 0 7 (fun _ => 0) 0 100000 100 250 20 0 0 0 0 0 0 (fun _ => XS0)) := (List.append_nil (as := (wX7 cy a0 (u 0) (u 1) (u 2) (u 3) (u 4) (u 5) (u 6) (u 7) (u 8) (u 9) (u 10) (u 11) (u 12) (u 13) (u 14) (u 15) (u 16) (fun n => u (n + 17)) 0 (fun _ => 0) 0 0 0 0 0 0 (fun _ => 0) (fun _ => 0) 0 (fun _ => 0) (fun _ => 0) (fun _ => 0) (fun _ => 0) 0 0 (fun _ => 0) 0 0 (fun _ => 0) 0 7 (fun _ => 0) 0 100000 100 250 20 0 0 0 0 0 0 (fun _ => XS0) : va_W))) ▸ hD
  refine lv_astore_n (lv' := [(1, .ref a0), (0, .ref b)]) hx hb dL_law_7 rfl hl (by decide) rfl (fun ls hl => ?_)
  refine lv_bipush (v := 18) hx hb dL_law_8 (by decide) ?_
  refine x_newai (W' := fun yq0 => (wX7 cy a0 (u 0) (u 1) (u 2) (u 3) (u 4) (u 5) (u 6) (u 7) (u 8) (u 9) (u 10) (u 11) (u 12) (u 13) (u 14) (u 15) (u 16) (fun n => u (n + 17)) 0 (fun _ => 0) 0 0 0 0 0 0 (fun _ => 0) (fun _ => 0) 0 (fun _ => 0) (fun _ => 0) (fun _ => 0) (fun _ => 0) 0 0 (fun _ => 0) 0 0 (fun _ => 0) 0 7 (fun _ => 0) 0 100000 100 250 20 0 0 0 0 0 0 (fun _ => XS0)) ++ wAQ cy yq0 (fun _ => 0)) hx hb (htl (Cond.arrayClass .int) wm_0_3) hK hP hD hS hA (N' := 18) (by decide) rfl (by decide) (Nat.le_of_ble_eq_true rfl) (Nat.le_of_ble_eq_true rfl) (fun q => rfl) dL_law_10 (fun yq0 H hP hD hS => ?_)
  refine lv_astore_n (lv' := [(2, .ref yq0), (1, .ref a0), (0, .ref b)]) hx hb dL_law_12 rfl hl (by decide) rfl (fun ls hl => ?_)
  refine lv_bipush (v := 25) hx hb dL_law_13 (by decide) ?_
  refine x_newal (W' := fun ym0 => ((wX7 cy a0 (u 0) (u 1) (u 2) (u 3) (u 4) (u 5) (u 6) (u 7) (u 8) (u 9) (u 10) (u 11) (u 12) (u 13) (u 14) (u 15) (u 16) (fun n => u (n + 17)) 0 (fun _ => 0) 0 0 0 0 0 0 (fun _ => 0) (fun _ => 0) 0 (fun _ => 0) (fun _ => 0) (fun _ => 0) (fun _ => 0) 0 0 (fun _ => 0) 0 0 (fun _ => 0) 0 7 (fun _ => 0) 0 100000 100 250 20 0 0 0 0 0 0 (fun _ => XS0)) ++ wAQ cy yq0 (fun _ => 0)) ++ wAM cy ym0 (fun _ => 0)) hx hb (htl (Cond.arrayClass .long) wm_0_4) hK hP hD hS hA (N' := 25) (by decide) rfl (by decide) (Nat.le_of_ble_eq_true rfl) (Nat.le_of_ble_eq_true rfl) (fun q => rfl) dL_law_15 (fun ym0 H hP hD hS => ?_)
  refine lv_astore_n (lv' := [(3, .ref ym0), (2, .ref yq0), (1, .ref a0), (0, .ref b)]) hx hb dL_law_17 rfl hl (by decide) rfl (fun ls hl => ?_)
  refine lv_bipush (v := 60) hx hb dL_law_18 (by decide) ?_
  refine x_newai (W' := fun yh0 => (((wX7 cy a0 (u 0) (u 1) (u 2) (u 3) (u 4) (u 5) (u 6) (u 7) (u 8) (u 9) (u 10) (u 11) (u 12) (u 13) (u 14) (u 15) (u 16) (fun n => u (n + 17)) 0 (fun _ => 0) 0 0 0 0 0 0 (fun _ => 0) (fun _ => 0) 0 (fun _ => 0) (fun _ => 0) (fun _ => 0) (fun _ => 0) 0 0 (fun _ => 0) 0 0 (fun _ => 0) 0 7 (fun _ => 0) 0 100000 100 250 20 0 0 0 0 0 0 (fun _ => XS0)) ++ wAQ cy yq0 (fun _ => 0)) ++ wAM cy ym0 (fun _ => 0)) ++ wAH cy yh0 (fun _ => 0)) hx hb (htl (Cond.arrayClass .int) wm_0_3) hK hP hD hS hA (N' := 60) (by decide) rfl (by decide) (Nat.le_of_ble_eq_true rfl) (Nat.le_of_ble_eq_true rfl) (fun q => rfl) dL_law_20 (fun yh0 H hP hD hS => ?_)
  refine lv_astore (lv' := [(4, .ref yh0), (3, .ref ym0), (2, .ref yq0), (1, .ref a0), (0, .ref b)]) hx hb dL_law_22 hl (by decide) rfl (fun ls hl => ?_)
  refine lv_bipush (v := 60) hx hb dL_law_24 (by decide) ?_
  refine x_newai (W' := fun yb0 => ((((wX7 cy a0 (u 0) (u 1) (u 2) (u 3) (u 4) (u 5) (u 6) (u 7) (u 8) (u 9) (u 10) (u 11) (u 12) (u 13) (u 14) (u 15) (u 16) (fun n => u (n + 17)) 0 (fun _ => 0) 0 0 0 0 0 0 (fun _ => 0) (fun _ => 0) 0 (fun _ => 0) (fun _ => 0) (fun _ => 0) (fun _ => 0) 0 0 (fun _ => 0) 0 0 (fun _ => 0) 0 7 (fun _ => 0) 0 100000 100 250 20 0 0 0 0 0 0 (fun _ => XS0)) ++ wAQ cy yq0 (fun _ => 0)) ++ wAM cy ym0 (fun _ => 0)) ++ wAH cy yh0 (fun _ => 0)) ++ wAB cy yb0 (fun _ => 0)) hx hb (htl (Cond.arrayClass .int) wm_0_3) hK hP hD hS hA (N' := 60) (by decide) rfl (by decide) (Nat.le_of_ble_eq_true rfl) (Nat.le_of_ble_eq_true rfl) (fun q => rfl) dL_law_26 (fun yb0 H hP hD hS => ?_)
  refine lv_astore (lv' := [(5, .ref yb0), (4, .ref yh0), (3, .ref ym0), (2, .ref yq0), (1, .ref a0), (0, .ref b)]) hx hb dL_law_28 hl (by decide) rfl (fun ls hl => ?_)
  refine lv_bipush (v := 60) hx hb dL_law_30 (by decide) ?_
  refine x_newai (W' := fun ye0 => (((((wX7 cy a0 (u 0) (u 1) (u 2) (u 3) (u 4) (u 5) (u 6) (u 7) (u 8) (u 9) (u 10) (u 11) (u 12) (u 13) (u 14) (u 15) (u 16) (fun n => u (n + 17)) 0 (fun _ => 0) 0 0 0 0 0 0 (fun _ => 0) (fun _ => 0) 0 (fun _ => 0) (fun _ => 0) (fun _ => 0) (fun _ => 0) 0 0 (fun _ => 0) 0 0 (fun _ => 0) 0 7 (fun _ => 0) 0 100000 100 250 20 0 0 0 0 0 0 (fun _ => XS0)) ++ wAQ cy yq0 (fun _ => 0)) ++ wAM cy ym0 (fun _ => 0)) ++ wAH cy yh0 (fun _ => 0)) ++ wAB cy yb0 (fun _ => 0)) ++ wAE cy ye0 (fun _ => 0)) hx hb (htl (Cond.arrayClass .int) wm_0_3) hK hP hD hS hA (N' := 60) (by decide) rfl (by decide) (Nat.le_of_ble_eq_true rfl) (Nat.le_of_ble_eq_true rfl) (fun q => rfl) dL_law_32 (fun ye0 H hP hD hS => ?_)
  refine lv_astore (lv' := [(6, .ref ye0), (5, .ref yb0), (4, .ref yh0), (3, .ref ym0), (2, .ref yq0), (1, .ref a0), (0, .ref b)]) hx hb dL_law_34 hl (by decide) rfl (fun ls hl => ?_)
  refine W.widen (k := 600000) (n := 7302250) (Nat.le_of_ble_eq_true rfl) (Nat.le_of_ble_eq_true rfl) ?_
  have pm : ((((((wX7 cy a0 (u 0) (u 1) (u 2) (u 3) (u 4) (u 5) (u 6) (u 7) (u 8) (u 9) (u 10) (u 11) (u 12) (u 13) (u 14) (u 15) (u 16) (fun n => u (n + 17)) 0 (fun _ => 0) 0 0 0 0 0 0 (fun _ => 0) (fun _ => 0) 0 (fun _ => 0) (fun _ => 0) (fun _ => 0) (fun _ => 0) 0 0 (fun _ => 0) 0 0 (fun _ => 0) 0 7 (fun _ => 0) 0 100000 100 250 20 0 0 0 0 0 0 (fun _ => XS0)) ++ wAQ cy yq0 (fun _ => 0)) ++ wAM cy ym0 (fun _ => 0)) ++ wAH cy yh0 (fun _ => 0)) ++ wAB cy yb0 (fun _ => 0)) ++ wAE cy ye0 (fun _ => 0)).Perm (wAE cy ye0 (fun _ => 0) ++ (wAM cy ym0 (fun _ => 0) ++ (wAQ cy yq0 (fun _ => 0) ++ (wAH cy yh0 (fun _ => 0) ++ (wAB cy yb0 (fun _ => 0) ++ wX7 cy a0 (u 0) (u 1) (u 2) (u 3) (u 4) (u 5) (u 6) (u 7) (u 8) (u 9) (u 10) (u 11) (u 12) (u 13) (u 14) (u 15) (u 16) (fun n => u (n + 17)) 0 (fun _ => 0) 0 0 0 0 0 0 (fun _ => 0) (fun _ => 0) 0 (fun _ => 0) (fun _ => 0) (fun _ => 0) (fun _ => 0) 0 0 (fun _ => 0) 0 0 (fun _ => 0) 0 7 (fun _ => 0) 0 100000 100 250 20 0 0 0 0 0 0 (fun _ => XS0)))))) := s_perm _ _ _ _ _ _
  refine law_main (scL := L) (scx := xs) (D := (dC, dI)) (cy := cy) (A := fun q : Nat => s.heap.size ≤ q) ⟨hx, hb, hml, hown, htl, hX, hbl, hK, hN, hA, Nat.not_le.mpr hbl⟩ ye0 ym0 yq0 yh0 yb0 a0 (u 0) (u 1) (u 2) (u 3) (u 4) (u 5) (u 6) (u 7) (u 8) (u 9) (u 10) (u 11) (u 12) (u 13) (u 14) (u 15) (u 16) (fun n => u (n + 17)) (fun _ => 0) (fun _ => 0) (fun _ => 0) (fun _ => 0) (fun _ => 0) 0 (fun _ => 0) 0 0 0 0 0 0 (fun _ => 0) (fun _ => 0) 0 (fun _ => 0) (fun _ => 0) (fun _ => 0) (fun _ => 0) 0 0 (fun _ => 0) 0 0 (fun _ => 0) 0 7 (fun _ => 0) 0 100000 100 250 20 0 0 0 0 0 0 (fun _ => XS0) (law_ok hL xs) (fun H locs ls hS => ?_) H locs ls (hP.perm pm) (hD.perm pm) hS (lv_sub hl [6, 5, 4, 3, 2, 1, 0] rfl)
  refine va_forget (fun q hq => hS.2.2 q hq) ?_
  exact lw_ret hx hb hr hlocks dL_law_2311
-- ===== YOUR PART ENDS =====
set_option maxHeartbeats 4000000 in
theorem lw_walk (l : Launch) (hflags : l.flags = flags0) (b : Addr) (xs : List Int32) : MetFree l x (headSpec (Jvm.Cond.code x code maxLocals ret :: tables_1) room_1) (lw_P b xs) (fun _ _ _ _ _ => True) lw_Q := by
  refine MetFree.of_bodyS (code := code) (maxLocals := maxLocals) (ret := ret) (by decide) ?_ ?_
  · intro args s m h hn
    obtain ⟨meth, c, h1, h2, h3, h4, h5, h6, -, -⟩ := Cond.code_spec hn (atoms_spec (ws := Jvm.Cond.code x code maxLocals ret :: tables_1) h _ List.mem_cons_self)
    exact ⟨meth, c, h1, h2, h3, h4, h5, h6⟩
  · intro p e s m args below meth c s₁ B hml0 hP _
    obtain ⟨rfl, hx, hbd, hgv⟩ := hP
    obtain ⟨scr, harrAt, hlist, hof, hsmall⟩ := hx
    obtain ⟨hcb, hkn, -, -⟩ := State.arrayAt?_spec harrAt
    have hown : s.vm.findClass R_law = some m.cls := findClass_of_methodNamed B.named
    have hts0 : ∀ c ∈ (Jvm.Cond.code x code maxLocals ret :: tables_1), c.before #[Value.ref b] s = true := atoms_spec (ws := Jvm.Cond.code x code maxLocals ret :: tables_1) B.pre
    have hts : ∀ w ∈ lw_tbl, w.before #[Value.ref b] s = true := k2_hts_sels lw_privs (fun w hw => hts0 w (List.mem_cons_of_mem _ hw)) lw_privs_ok
    have hml : c.maxLocals = 27 := B.maxLocals_eq (hts0 _ List.mem_cons_self)
    have X₀ : Stand p l e room_1 s m #[Value.ref b] below meth c s₁ [] 0 0 := Stand.of_body B
    have hh0 : s₁.heap = s.heap := by rw [B.state]; rfl
    have hsz : scr.slots.size = xs.length := by rw [← Array.length_toList, hlist, List.length_map]
    have hval : ∀ j : Nat, j < xs.length → scr.slots[j]? = some (.int (xs.getD j 0)) := fun j hj => by
      rw [← Array.getElem?_toList, hlist]
      simp [hj]
    have hbl : b < s.heap.size := (Array.getElem?_eq_some_iff.mp hcb).1
    have hX : va_X b xs.length (fun j => xs.getD j 0) s s.heap := ⟨scr, hcb, hof, hkn, hsz, hval⟩
    have K : W p l e room_1 s m #[Value.ref b] below meth c s₁.heap [] 0 0 (lw_Z below #[Value.ref b] s) (entryFrame m ([Value.ref b] : List Value).toArray 27) := by
      rw [hh0]
      exact whole_start l hflags hbd ⟨B.exec, B.bytes, B.returns, hml, hown, hts, hX, hbl, B.notSynchronized, hgv⟩
    obtain ⟨t, a1, o, b1, b2, b3⟩ := K s₁ rfl X₀
    exact ⟨t, o, a1, b1, b2, b3⟩
theorem lw_pre_spec {args : Array Value} {s : State} (h : (Jvm.Cond.and given_1 narrow_1).before args s = true) (hr : rest_1_c.before args s = true) : ∃ (b : Addr) (xs : List Int32), lw_P b xs args s := by
  have hs := flat_of_before _ h
  have hq := flat_of_before _ hr
  have hc : (Cond.count 1).before args s = true := hs _ (by decide +kernel)
  have harr : (Cond.arrayOf (.arg 0) .int).before args s = true := hs _ (by decide +kernel)
  have hle : (Cond.le (.length (.arg 0)) (.int 260)).before args s = true := hs _ (by decide +kernel)
  have hlen : (Cond.isInt (.length (.arg 0))).before args s = true := hq _ (by decide +kernel)
  have hall : (Cond.all (.arg 0) (.isInt (.elem (.arg 0) (.index 0)))).before args s = true := hq _ (by decide +kernel)
  obtain ⟨b, xs, hb, hx⟩ := State.ints_of_pre rfl harr hlen hall
  have hsm : xs.length < 2 ^ 31 := hx.choose_spec.2.2.2
  have hev : (Term.length (.arg 0)).eval args s none [] s = some (.int xs.length.toInt32) := hx.length_eval hb
  have hv := Cond.le_ints hev (show (Term.int 260).eval args s none [] s = some (.int 260) from rfl)
  have hd : xs.length.toInt32 ≤ 260 := by
    simpa [Cond.before, Cond.holds, hv] using hle
  have hN : xs.length ≤ 260 := (Int32.ofNat_le_ofNat hsm (by decide)).mp (show Int32.ofNat xs.length ≤ Int32.ofNat 260 from hd)
  exact ⟨b, xs, Cond.one_arg hc (show args[0]? = some (.ref b) from hb), hx, hN, h⟩
theorem lw_comes (l : Launch) (hflags : l.flags = flags0) : Comes l x (Jvm.Cond.code x code maxLocals ret :: tables_1) room_1 (fun tb e args s => Calls_1 tb e args s ∧ rest_1 tb e args s ∧ Pre_1 tb e args s)
    (fun _ _ args s o t => lw_Q args s o t) := by
  intro p e ha hc hk s m args below hf hfit hheap happ hpre
  obtain ⟨b, xs, hP⟩ := lw_pre_spec hpre.2.2 hpre.2.1
  obtain ⟨k, o, h1, h2, h3, hQ⟩ := lw_walk l hflags b xs p e ha hc hk s m args below hf ((Spec.applies_iff_loose hf).mp happ).1 hP trivial
  exact ⟨k, o, h1, h2, h3, hQ⟩
theorem lw_frame {s t : State} {o : Outcome} {args : Array Value} (h : Framed s o t [] 600000 7302250) :
    Framed s o t (fieldLocs frame_1_writes args s ++ arrayLocs frame_1_arrays args s ++ staticLocs frame_1_statics s) 600000 7302250 := h
theorem lw_limb (L : Cond) (hL : ∀ (args : Array Value) (s t : State), L.after args s (.returned (some (.int 1))) t = true) :
    ArmFor flags0 classFile x code maxLocals ret World_1 tables_1 room_1 Calls_1 rest_1 Pre_1
      (fun tb e a s o t => postC L tb e a s o t ∧ Framed s o t (fieldLocs frame_1_writes a s ++ arrayLocs frame_1_arrays a s ++ staticLocs frame_1_statics s) 600000 7302250) := by
  intro l hflags _ _ p e ha hc hk s m args below hf hfit hheap happ hpre
  obtain ⟨k, o, h1, h2, h3, rfl, hF⟩ := lw_comes l hflags p e ha hc hk s m args below hf hfit hheap happ hpre
  exact ⟨k, _, h1, h2, h3, hL args s _, lw_frame hF⟩
theorem i_vc : Claimed_1_1 ∧ Claimed_1_2 := ⟨lw_limb limb_1_1 (fun args s t => by simp [limb_1_1, Cond.after, Cond.holds, Cond.value]), lw_limb limb_1_2 (fun args s t => Cond.after_iff.mpr (by
  first | (rw [show limb_1_2 = Cond.eq .result (.int 1) from rfl, Cond.eq_ints (x := 1) (y := 1) rfl rfl]; simp; done) | (simp [limb_1_2, Cond.value, Term.eval]; done)))⟩

