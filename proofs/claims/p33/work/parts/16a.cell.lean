def cPre (D : va_G) (cy : Nat → ClassId) (b L : Nat) (xs : Nat → Int32) (hz : Nat) (U : State) : Prop := xPre D cy [] hz U ∧ va_X b L xs U U.heap ∧ b < U.heap.size
def cM (l : Launch) (D : va_G) (cy : Nat → ClassId) (b L : Nat) (xs : Nat → Int32) (y : MethodName) (ws : List Cond) (rm : Room) (av : List Value) (r : Int32) : Prop := ∀ hz, Met l y ws rm (va_Pc av (cPre D cy b L xs hz)) (xQi D cy [] r (va_A [] hz)) 0 0 (va_A [] hz)
theorem c_blind {D : va_G} {cy : Nat → ClassId} {b L : Nat} {xs : Nat → Int32} {av : List Value} {hz : Nat} : FrameBlind (va_Pc av (cPre D cy b L xs hz)) := fun a U g mk q => ⟨q.1, (x_blind (D := D) (cy := cy) (w := []) (av := av) a U g mk ⟨q.1, q.2.1⟩).2, q.2.2.1.moved (u := U) (U := U.calling g mk a) (Vm.Alike.refl U.vm), q.2.2.2⟩
section CX
variable {p : Program} {l : Launch} {e : Env} {R : Room} {s : State} {m : MethodId} {args : Array Value} {below : List Frame} {meth : Method} {c : Code} {H : Heap} {locs : List Loc} {cells slots : Nat} {Q : State → Prop}
variable {D : va_G} {cy : Nat → ClassId} {b L : Nat} {xs : Nat → Int32} {w : va_W} {A : Nat → Prop} {pc : Nat} {ls : Array Slot} {rest st : List Value} {cc bytes : ByteArray} {Ts ws : List Cond} {own : String}
variable {y : MethodName} {maxL nL n index : Nat} {ret : Option FieldType} {rm : Room} {As : List Value} {lv : List (Nat × Value)} {r : Int32}
theorem c_sub (hS : va_S A s.heap H locs) (hA : ∀ q, s.heap.size ≤ q → A q) : ∀ q, va_A [] H.size q → A q := by
  intro q h
  rcases h with ⟨k, e, hk⟩ | h
  · simp at hk
  · exact hA q (Nat.le_trans hS.1 h)
theorem c_pre {av : List Value} (hK : va_K D vwCl (xTy cy) s) (hN : nb_ok A s) (hX : va_X b L xs s s.heap) (hbl : b < s.heap.size) (hbA : ¬ A b) (hS : va_S A s.heap H locs) (hA : ∀ q, s.heap.size ≤ q → A q) : ∀ U : State, U.heap = H → s.WarmedH U.vm → va_Pc av (cPre D cy b L xs H.size) av.toArray U := fun U hU hW => ⟨rfl, (x_preU (wc := []) (av := av) nil_P hK nil_D hN hS (c_sub hS hA) U hU hW).2, by
  subst hU
  exact ⟨(hX.moved hW.alike).kept (hS.2.1 b hbl hbA), Nat.lt_of_lt_of_le hbl hS.1⟩⟩
theorem x_callCell (S : CallFix p m c cc nL s args Ts own) (hM : cM l D cy b L xs y ws rm As r) (cw : CallB R s args own index y bytes maxL ret ws rm 0 0 n ∧ (Cond.static y).before args s = true) (hP : va_P D vwCl w H) (hK : va_K D vwCl (xTy cy) s) (hD : va_D A w) (hN : nb_ok A s) (hX : va_X b L xs s s.heap) (hbl : b < s.heap.size) (hbA : ¬ A b) (hS : va_S A s.heap H locs) (hA : ∀ q, s.heap.size ≤ q → A q) (hn : As.length = n) (hl : lv_has ls nL lv) (hst : st = As.reverse ++ rest) (hW : (rest.map fun v => v.category).sum ≤ 8) (hdg : decode cc pc = .ok (.invokestatic index, 3)) (hf : cells ≤ R.cells ∧ slots ≤ R.slots)
    (kk : ∀ (H1 : Heap) (locs1 : List Loc), va_P D vwCl w H1 → va_D A w → va_S A s.heap H1 locs1 → W p l e R s m args below meth c H1 locs1 cells slots Q (F0 m (pc + 3) ls (.int r :: rest))) : W p l e R s m args below meth c H locs cells slots Q (F0 m pc ls st) :=
  x_goi (w1 := []) (wc := []) (wc' := []) (w2 := w) (As := As) (va_runS S (hM H.size) cw ⟨c_blind, c_pre hK hN hX hbl hbA hS hA⟩ rfl hn hl.1 hst (lv_room hW) hdg hf) rfl rfl hP hD hS hA kk
end CX
theorem c_start {l : Launch} {D : va_G} {cy : Nat → ClassId} {b L : Nat} {xs : Nat → Int32} {y : MethodName} {ws ws' : List Cond} {rm : Room} {av : List Value} {hz : Nat} {cc : ByteArray} {maxL : Nat} {ret : Option FieldType} {Qc : (Nat → Prop) → Array Value → State → Outcome → State → Prop} (hy : plainName y.cls = true) (hw : ws = Cond.code y cc maxL ret :: ws') (hn : (lg_sl av).length ≤ maxL) {lv : List (Nat × Value)} (hlv : lv_args 0 av = lv)
    (body : ∀ (p : Program) (e : Env) (s : State) (m : MethodId) (below : List Frame) (meth : Method) (c : Code) (ls : Array Slot) (A : Nat → Prop), p.tables.exec = Jvm.exec → c.code = cc → meth.sig.returnType = ret → c.maxLocals = maxL → s.vm.findClass y.cls = some m.cls → (∀ w ∈ ws, w.before av.toArray s = true) → meth.locks = false → va_K D vwCl (xTy cy) s → va_P D vwCl [] s.heap → va_D A [] → va_S A s.heap s.heap [] → va_X b L xs s s.heap → b < s.heap.size → ¬ A b → lv_has ls maxL lv → W p l e rm s m av.toArray below meth c s.heap [] 0 0 (MQ below (Qc A) av.toArray s 0 0 A) (F0 m 0 ls [])) :
    Met l y ws rm (va_Pc av (cPre D cy b L xs hz)) (Qc (va_A [] hz)) 0 0 (va_A [] hz) := by
  refine Met.ofW (cc := cc) (maxL := maxL) (ret := ret) hy hw ?_
  intro p e s m args below meth c s₁ B hml hv
  obtain ⟨rfl, ⟨hsz, hP, hK, hD0, hN⟩, hX, hbl⟩ := hv
  subst hsz
  have hts := atoms_spec (ws := ws) B.pre
  rw [lg_entry_eq]
  have hl := lv_entry av (n := maxL) hn
  rw [hlv] at hl
  refine body p e s m below meth c _ (va_A [] s.heap.size) B.exec B.bytes B.returns hml (findClass_of_methodNamed B.named) hts B.notSynchronized hK nil_P nil_D va_S.rf hX hbl (fun h => ?_) hl
  rcases h with ⟨k, e, hk⟩ | h
  · simp at hk
  · omega
def rmL_cell : Room := { frames := 0, cells := 0, slots := 0, locals := 0 }
theorem kdL_cell : yL_cell.cls ≠ "java/lang/invoke/MethodHandle" ∧ yL_cell.cls ≠ "java/lang/invoke/VarHandle" ∧ (parseMethodDescriptor yL_cell.desc).map (fun d => d.parameters.length) = some 2 := by decide +kernel
set_option maxHeartbeats 4000000 in
set_option maxRecDepth 100000 in
theorem mL_cell (l : Launch) (D : va_G) (cy : Nat → ClassId) (b L : Nat) (xs : Nat → Int32) (k r : Int32) (hf : fL_cell L xs k = some r) : cM l D cy b L xs yL_cell aL_cell rmL_cell ([.ref b, .int k] : List Value) r := by
  intro hz
  refine c_start (Qc := xQi D cy _ r) (cc := cL_cell) (maxL := 2) (ret := (some .int)) (by decide) rfl (Nat.le_of_ble_eq_true rfl) (lv := [(0, .ref b), (1, .int k)]) rfl ?_
  intro p e s m below meth c ls A hx hb hr hml hown hts hlocks hK hP hD hS hX hbl hbA hl
  have hown : s.vm.findClass RL = some m.cls := hown
  have wd0 : (Cond.constant RL 7 (1033861975)).before ([.ref b, .int k] : List Value).toArray s = true := hts _ (List.mem_cons_of_mem _ wm_4_17)
  have wd1 : (Cond.constant RL 8 (650699941)).before ([.ref b, .int k] : List Value).toArray s = true := hts _ (List.mem_cons_of_mem _ wm_4_18)
  unfold fL_cell at hf
  refine lv_iload_n hx hb dL_cell_0 rfl (lv_at hl 1 rfl) ?_
  refine lv_aload_n hx hb dL_cell_1 rfl (lv_at hl 0 rfl) ?_
  refine va_slen hx hb hX hbl hbA hS dL_cell_2 ?_
  refine lv_icmp_ge (tgt := 12) hx hb dL_cell_3 (by decide) (fun c1 => ?_) (fun c1 => ?_)
  · have hf := x_t c1 hf
    have hf := Option.some.inj hf
    cases hf
    refine lv_ldc hx hb hown wd0 dL_cell_12 ?_
    refine lv_iload_n hx hb dL_cell_14 rfl (lv_at hl 1 rfl) ?_
    refine lv_iconst (v := 1) hx hb dL_cell_15 (by decide) ?_
    refine lv_iadd hx hb dL_cell_16 ?_
    refine lv_imul hx hb dL_cell_17 ?_
    refine lv_ldc hx hb hown wd1 dL_cell_18 ?_
    refine lv_iadd hx hb dL_cell_20 ?_
    exact x_iret hx hb hr hlocks hK hP hD hS dL_cell_21
  · have hf := x_f c1 hf
    obtain ⟨hi, hf⟩ := ckI_el hf
    have hf := Option.some.inj hf
    cases hf
    refine lv_aload_n hx hb dL_cell_6 rfl (lv_at hl 0 rfl) ?_
    refine lv_iload_n hx hb dL_cell_7 rfl (lv_at hl 1 rfl) ?_
    refine va_sld hx hb hX hbl hbA hS hi dL_cell_8 ?_
    refine lv_goto (tgt := 21) hx hb dL_cell_9 (by decide) ?_
    exact x_iret hx hb hr hlocks hK hP hD hS dL_cell_21
