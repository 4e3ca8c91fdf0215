def jPre (D : va_G) (cy : Nat → ClassId) (adK adV : Nat → Nat) (hz : Nat) (U : State) : Prop := xPre D cy [] hz U ∧ vk_S 1 [6] [[114, 112, 116, 98, 115, 100]] adK adV (va_A [] hz) U U.heap
def jM (l : Launch) (D : va_G) (cy : Nat → ClassId) (adK adV : Nat → Nat) (y : MethodName) (ws : List Cond) (rm : Room) (av : List Value) (r : Int32) : Prop := ∀ hz, Met l y ws rm (va_Pc av (jPre D cy adK adV hz)) (xQi D cy [] r (va_A [] hz)) 0 0 (va_A [] hz)
theorem nil_P {D : va_G} {cl : List vw_C} {H : Heap} : va_P D cl [] H := fun k q h => by simp at h
theorem nil_D {A : Nat → Prop} : va_D A [] := ⟨fun i j p q h => by simp at h, fun k q h => by simp at h⟩
theorem j_start {l : Launch} {D : va_G} {cy : Nat → ClassId} {adK adV : Nat → Nat} {y : MethodName} {ws ws' : List Cond} {rm : Room} {av : List Value} {hz : Nat} {cc : ByteArray} {maxL : Nat} {ret : Option FieldType} {Qc : (Nat → Prop) → Array Value → State → Outcome → State → Prop} (hy : plainName y.cls = true) (hw : ws = Cond.code y cc maxL ret :: ws') (hn : (lg_sl av).length ≤ maxL) {lv : List (Nat × Value)} (hlv : lv_args 0 av = lv)
    (body : ∀ (p : Program) (e : Env) (s : State) (m : MethodId) (below : List Frame) (meth : Method) (c : Code) (ls : Array Slot) (A : Nat → Prop), p.tables.exec = Jvm.exec → c.code = cc → meth.sig.returnType = ret → c.maxLocals = maxL → s.vm.findClass y.cls = some m.cls → (∀ w ∈ ws, w.before av.toArray s = true) → meth.locks = false → va_K D vwCl (xTy cy) s → va_S A s.heap s.heap [] → (∀ q, s.heap.size ≤ q → A q) → nb_ok A s → vk_S 1 [6] [[114, 112, 116, 98, 115, 100]] adK adV A s s.heap → lv_has ls maxL lv → W p l e rm s m av.toArray below meth c s.heap [] 0 0 (MQ below (Qc A) av.toArray s 0 0 A) (F0 m 0 ls [])) :
    Met l y ws rm (va_Pc av (jPre D cy adK adV hz)) (Qc (va_A [] hz)) 0 0 (va_A [] hz) := by
  refine Met.ofW (cc := cc) (maxL := maxL) (ret := ret) hy hw ?_
  intro p e s m args below meth c s₁ B hml hv
  obtain ⟨rfl, ⟨hsz, hP, hK, hD0, hN⟩, hV⟩ := hv
  subst hsz
  have hts := atoms_spec (ws := ws) B.pre
  rw [lg_entry_eq]
  have hl := lv_entry av (n := maxL) hn
  rw [hlv] at hl
  exact body p e s m below meth c _ (va_A [] s.heap.size) B.exec B.bytes B.returns hml (findClass_of_methodNamed B.named) hts B.notSynchronized hK va_S.rf (fun q h => Or.inr h) hN hV hl
theorem j_blind {D : va_G} {cy : Nat → ClassId} {adK adV : Nat → Nat} {av : List Value} {hz : Nat} : FrameBlind (va_Pc av (jPre D cy adK adV hz)) := fun a U g mk q => ⟨q.1, (x_blind (D := D) (cy := cy) (w := []) (av := av) a U g mk ⟨q.1, q.2.1⟩).2, q.2.2.moved (u := U) (U := U.calling g mk a) (Vm.Alike.refl U.vm)⟩
section JX
variable {p : Program} {l : Launch} {e : Env} {R : Room} {s : State} {m : MethodId} {args : Array Value} {below : List Frame} {meth : Method} {c : Code} {H : Heap} {locs : List Loc} {cells slots : Nat} {Q : State → Prop}
variable {D : va_G} {cy : Nat → ClassId} {adK adV : Nat → Nat} {w : va_W} {A : Nat → Prop} {pc : Nat} {ls : Array Slot} {rest st : List Value} {cc bytes : ByteArray} {Ts ws : List Cond} {own : String}
variable {y : MethodName} {maxL nL n index : Nat} {ret : Option FieldType} {rm : Room} {C : String} {As : List Value} {lv : List (Nat × Value)} {r : Int32}
theorem j_sub (hS : va_S A s.heap H locs) (hA : ∀ q, s.heap.size ≤ q → A q) : ∀ q, va_A [] H.size q → A q := by
  intro q h
  rcases h with ⟨k, e, hk⟩ | h
  · simp at hk
  · exact hA q (Nat.le_trans hS.1 h)
theorem j_pre {av : List Value} (hK : va_K D vwCl (xTy cy) s) (hN : nb_ok A s) (hV : vk_S 1 [6] [[114, 112, 116, 98, 115, 100]] adK adV A s s.heap) (hS : va_S A s.heap H locs) (hA : ∀ q, s.heap.size ≤ q → A q) : ∀ U : State, U.heap = H → s.WarmedH U.vm → va_Pc av (jPre D cy adK adV H.size) av.toArray U := fun U hU hW => ⟨rfl, (x_preU (wc := []) (av := av) nil_P hK nil_D hN hS (j_sub hS hA) U hU hW).2, by
  subst hU
  exact ((hV.moved hW.alike).kept hS.2.1).narrow (j_sub hS hA)⟩
theorem j_go (hrun : va_Run p l e R s m args below meth c H locs cells slots 0 0 (F0 m pc ls st) rest (xQi D cy [] r (va_A [] H.size) As.toArray) (va_A [] H.size)) (hP : va_P D vwCl w H) (hD : va_D A w) (hS : va_S A s.heap H locs) (hA : ∀ q, s.heap.size ≤ q → A q)
    (kk : ∀ (H1 : Heap) (locs1 : List Loc), va_P D vwCl w H1 → va_D A w → va_S A s.heap H1 locs1 → W p l e R s m args below meth c H1 locs1 cells slots Q (F0 m (pc + 3) ls (.int r :: rest))) : W p l e R s m args below meth c H locs cells slots Q (F0 m pc ls st) :=
  x_goi (w1 := []) (wc := []) (wc' := []) (w2 := w) hrun rfl rfl hP hD hS hA kk
theorem j_callS (S : CallFix p m c cc nL s args Ts own) (hM : jM l D cy adK adV y ws rm As r) (cw : CallB R s args own index y bytes maxL ret ws rm 0 0 n ∧ (Cond.static y).before args s = true) (hP : va_P D vwCl w H) (hK : va_K D vwCl (xTy cy) s) (hD : va_D A w) (hN : nb_ok A s) (hV : vk_S 1 [6] [[114, 112, 116, 98, 115, 100]] adK adV A s s.heap) (hS : va_S A s.heap H locs) (hA : ∀ q, s.heap.size ≤ q → A q) (hn : As.length = n) (hl : lv_has ls nL lv) (hst : st = As.reverse ++ rest) (hW : (rest.map fun v => v.category).sum ≤ 8) (hdg : decode cc pc = .ok (.invokestatic index, 3)) (hf : cells ≤ R.cells ∧ slots ≤ R.slots)
    (kk : ∀ (H1 : Heap) (locs1 : List Loc), va_P D vwCl w H1 → va_D A w → va_S A s.heap H1 locs1 → W p l e R s m args below meth c H1 locs1 cells slots Q (F0 m (pc + 3) ls (.int r :: rest))) : W p l e R s m args below meth c H locs cells slots Q (F0 m pc ls st) :=
  j_go (As := As) (va_runS S (hM H.size) cw ⟨j_blind, j_pre hK hN hV hS hA⟩ rfl hn hl.1 hst (lv_room hW) hdg hf) hP hD hS hA kk
theorem j_callV (S : CallFix p m c cc nL s args Ts own) (hM : jM l D cy adK adV y ws rm (.ref (adK 0) :: As) r) (cw : CallW R s args own C index y bytes maxL ret ws rm 0 0 n) (hC : C = "java/lang/String") (hP : va_P D vwCl w H) (hK : va_K D vwCl (xTy cy) s) (hD : va_D A w) (hN : nb_ok A s) (hV : vk_S 1 [6] [[114, 112, 116, 98, 115, 100]] adK adV A s s.heap) (hS : va_S A s.heap H locs) (hA : ∀ q, s.heap.size ≤ q → A q) (hn : As.length = n) (hl : lv_has ls nL lv) (hst : st = As.reverse ++ .ref (adK 0) :: rest) (hW : (rest.map fun v => v.category).sum ≤ 8) (hdg : decode cc pc = .ok (.invokevirtual index, 3)) (hf : cells ≤ R.cells ∧ slots ≤ R.slots)
    (kk : ∀ (H1 : Heap) (locs1 : List Loc), va_P D vwCl w H1 → va_D A w → va_S A s.heap H1 locs1 → W p l e R s m args below meth c H1 locs1 cells slots Q (F0 m (pc + 3) ls (.int r :: rest))) : W p l e R s m args below meth c H locs cells slots Q (F0 m pc ls st) := by
  subst hC
  exact j_go (As := .ref (adK 0) :: As) (va_runV S (hM H.size) cw ⟨j_blind, va_Orecv (hV.1 0 (by decide)).1 hS, j_pre hK hN hV hS hA⟩ rfl hn hl.1 hst (lv_room hW) hdg hf) hP hD hS hA kk
end JX
def ixB (c : Int32) : Int32 := if 114 = c then 0 else if 112 = c then 1 else if 116 = c then 2 else if 98 = c then 3 else if 115 = c then 4 else if 100 = c then 5 else -1
def ixL (v : Int32) : Int32 := if v < 0 then -1 else if 255 < v then -1 else ixB v.toInt8.toInt32
theorem ixL_eq (v : Int32) : ixL v = ixOf v := by
  unfold ixL
  by_cases h0 : v < 0
  · rw [if_pos h0]
    have h : v.toInt < (0 : Int32).toInt := Int32.lt_iff_toInt_lt.mp h0
    have h : v.toInt < 0 := h
    unfold ixOf
    have g : ∀ k : Int32, 0 ≤ k.toInt → ¬ v = k := fun k hk e => by subst e; omega
    rw [if_neg (g _ (by decide)), if_neg (g _ (by decide)), if_neg (g _ (by decide)), if_neg (g _ (by decide)), if_neg (g _ (by decide)), if_neg (g _ (by decide))]
  · rw [if_neg h0]
    by_cases h1 : 255 < v
    · rw [if_pos h1]
      have h : (255 : Int32).toInt < v.toInt := Int32.lt_iff_toInt_lt.mp h1
      have h : 255 < v.toInt := h
      unfold ixOf
      have g : ∀ k : Int32, k.toInt ≤ 255 → ¬ v = k := fun k hk e => by subst e; omega
      rw [if_neg (g _ (by decide)), if_neg (g _ (by decide)), if_neg (g _ (by decide)), if_neg (g _ (by decide)), if_neg (g _ (by decide)), if_neg (g _ (by decide))]
    · rw [if_neg h1]
      obtain ⟨j, hj, rfl⟩ := nI_of2 (M := 255) (n := 255) rfl h0 (Int32.not_lt.mp h1)
      have key : ∀ j, j < 256 → ixB (nI j).toInt8.toInt32 = ixOf (nI j) := by decide +kernel
      exact key j (by omega)
def rmJ0_coder_7d493 : Room := { frames := 0, cells := 0, slots := 0, locals := 0 }
theorem kdJ0_coder_7d493 : yJ0_coder_7d493.cls = RJ0 ∧ yJ0_coder_7d493.cls ≠ "java/lang/invoke/MethodHandle" ∧ yJ0_coder_7d493.cls ≠ "java/lang/invoke/VarHandle" ∧ (parseMethodDescriptor yJ0_coder_7d493.desc).map (fun d => d.parameters.length) = some 0 := by decide +kernel
set_option maxHeartbeats 4000000 in
set_option maxRecDepth 100000 in
theorem mJ0_coder_7d493 (l : Launch) (D : va_G) (cy : Nat → ClassId) (adK adV : Nat → Nat) (v : Int32) : jM l D cy adK adV yJ0_coder_7d493 aJ0_coder_7d493 rmJ0_coder_7d493 ([.ref (adK 0)] : List Value) (0) := by
  intro hz
  refine j_start (Qc := xQi D cy _ (0)) (cc := cJ0_coder_7d493) (maxL := 1) (ret := some .byte) (by decide) rfl (Nat.le_of_ble_eq_true rfl) (lv := [(0, .ref (adK 0))]) rfl ?_
  intro p e s m below meth c ls A hx hb hr hml hown hts hlocks hK hS hA hN hV hl
  have hown : s.vm.findClass RJ0 = some m.cls := hown
  have hP : va_P D vwCl [] s.heap := nil_P
  have hD : va_D A [] := nil_D
  have hbg : ∀ w ∈ wsL_law, w ∈ aJ0_coder_7d493 := fun w h => List.mem_cons_of_mem _ h
  have hCS := hN.2.1
  have hV0 := hV.1 0 (by decide)
  have w1 : (Cond.fieldLink RJ0 38 "java/lang/String" "COMPACT_STRINGS" "Z").before ([.ref (adK 0)] : List Value).toArray s = true := hts _ (List.mem_cons_of_mem _ wm_35_21)
  have w2 : (Cond.fieldLink RJ0 15 "java/lang/String" "coder" "B").before ([.ref (adK 0)] : List Value).toArray s = true := hts _ (List.mem_cons_of_mem _ wm_35_22)
  refine va_gets hx hb hCS hS hown w1 (fun _ h => h) dJ0_coder_7d493_0 ?_
  refine lv_if_eq (tgt := 13) hx hb dJ0_coder_7d493_3 (by decide) (fun c1 => absurd c1 (by decide)) (fun c1 => ?_)
  refine lv_aload_n hx hb dJ0_coder_7d493_6 rfl (lv_at hl 0 rfl) ?_
  refine vk_getf hx hb hV0.2.1 hS hown w2 (fun _ h => h) dJ0_coder_7d493_7 ?_
  refine lv_goto (tgt := 14) hx hb dJ0_coder_7d493_10 (by decide) ?_
  exact x_zret hx hb hr hlocks hK hP hD hS rfl dJ0_coder_7d493_14
def rmJ0_isLatin1_aae02 : Room := { frames := 0, cells := 0, slots := 0, locals := 0 }
theorem kdJ0_isLatin1_aae02 : yJ0_isLatin1_aae02.cls = RJ0 ∧ yJ0_isLatin1_aae02.cls ≠ "java/lang/invoke/MethodHandle" ∧ yJ0_isLatin1_aae02.cls ≠ "java/lang/invoke/VarHandle" ∧ (parseMethodDescriptor yJ0_isLatin1_aae02.desc).map (fun d => d.parameters.length) = some 0 := by decide +kernel
set_option maxHeartbeats 4000000 in
set_option maxRecDepth 100000 in
theorem mJ0_isLatin1_aae02 (l : Launch) (D : va_G) (cy : Nat → ClassId) (adK adV : Nat → Nat) (v : Int32) : jM l D cy adK adV yJ0_isLatin1_aae02 aJ0_isLatin1_aae02 rmJ0_isLatin1_aae02 ([.ref (adK 0)] : List Value) (1) := by
  intro hz
  refine j_start (Qc := xQi D cy _ (1)) (cc := cJ0_isLatin1_aae02) (maxL := 1) (ret := some .boolean) (by decide) rfl (Nat.le_of_ble_eq_true rfl) (lv := [(0, .ref (adK 0))]) rfl ?_
  intro p e s m below meth c ls A hx hb hr hml hown hts hlocks hK hS hA hN hV hl
  have hown : s.vm.findClass RJ0 = some m.cls := hown
  have hP : va_P D vwCl [] s.heap := nil_P
  have hD : va_D A [] := nil_D
  have hbg : ∀ w ∈ wsL_law, w ∈ aJ0_isLatin1_aae02 := fun w h => List.mem_cons_of_mem _ h
  have hCS := hN.2.1
  have hV0 := hV.1 0 (by decide)
  have w1 : (Cond.fieldLink RJ0 38 "java/lang/String" "COMPACT_STRINGS" "Z").before ([.ref (adK 0)] : List Value).toArray s = true := hts _ (List.mem_cons_of_mem _ wm_35_21)
  have w2 : (Cond.fieldLink RJ0 15 "java/lang/String" "coder" "B").before ([.ref (adK 0)] : List Value).toArray s = true := hts _ (List.mem_cons_of_mem _ wm_35_22)
  refine va_gets hx hb hCS hS hown w1 (fun _ h => h) dJ0_isLatin1_aae02_0 ?_
  refine lv_if_eq (tgt := 17) hx hb dJ0_isLatin1_aae02_3 (by decide) (fun c1 => absurd c1 (by decide)) (fun c1 => ?_)
  refine lv_aload_n hx hb dJ0_isLatin1_aae02_6 rfl (lv_at hl 0 rfl) ?_
  refine vk_getf hx hb hV0.2.1 hS hown w2 (fun _ h => h) dJ0_isLatin1_aae02_7 ?_
  refine lv_if_ne (tgt := 17) hx hb dJ0_isLatin1_aae02_10 (by decide) (fun c1 => absurd rfl c1) (fun c1 => ?_)
  refine lv_iconst (v := 1) hx hb dJ0_isLatin1_aae02_13 (by decide) ?_
  refine lv_goto (tgt := 18) hx hb dJ0_isLatin1_aae02_14 (by decide) ?_
  exact x_zret hx hb hr hlocks hK hP hD hS rfl dJ0_isLatin1_aae02_18
def rmJ0_length_8abf5 : Room := { frames := 1, cells := 0, slots := 0, locals := 20 }
theorem kdJ0_length_8abf5 : yJ0_length_8abf5.cls = RJ0 ∧ yJ0_length_8abf5.cls ≠ "java/lang/invoke/MethodHandle" ∧ yJ0_length_8abf5.cls ≠ "java/lang/invoke/VarHandle" ∧ (parseMethodDescriptor yJ0_length_8abf5.desc).map (fun d => d.parameters.length) = some 0 := by decide +kernel
set_option maxHeartbeats 4000000 in
set_option maxRecDepth 100000 in
theorem mJ0_length_8abf5 (l : Launch) (D : va_G) (cy : Nat → ClassId) (adK adV : Nat → Nat) (v : Int32) : jM l D cy adK adV yJ0_length_8abf5 aJ0_length_8abf5 rmJ0_length_8abf5 ([.ref (adK 0)] : List Value) (6) := by
  intro hz
  refine j_start (Qc := xQi D cy _ (6)) (cc := cJ0_length_8abf5) (maxL := 1) (ret := some .int) (by decide) rfl (Nat.le_of_ble_eq_true rfl) (lv := [(0, .ref (adK 0))]) rfl ?_
  intro p e s m below meth c ls A hx hb hr hml hown hts hlocks hK hS hA hN hV hl
  have hown : s.vm.findClass RJ0 = some m.cls := hown
  have hP : va_P D vwCl [] s.heap := nil_P
  have hD : va_D A [] := nil_D
  have hbg : ∀ w ∈ wsL_law, w ∈ aJ0_length_8abf5 := fun w h => List.mem_cons_of_mem _ h
  have hCS := hN.2.1
  have hV0 := hV.1 0 (by decide)
  have w1 : (Cond.fieldLink RJ0 9 "java/lang/String" "value" "[B").before ([.ref (adK 0)] : List Value).toArray s = true := hts _ (List.mem_cons_of_mem _ wm_35_16)
  refine lv_aload_n hx hb dJ0_length_8abf5_0 rfl (lv_at hl 0 rfl) ?_
  refine vk_getf hx hb hV0.2.2.1 hS hown w1 (fun _ h => h) dJ0_length_8abf5_1 ?_
  refine va_tlen hx hb hV0.2.2.2 hS (v := 6) rfl dJ0_length_8abf5_4 ?_
  refine lv_aload_n hx hb dJ0_length_8abf5_5 rfl (lv_at hl 0 rfl) ?_
  refine j_callV (As := []) (rest := [.int 6]) ⟨hx, hb, hml, hown, hts⟩ (mJ0_coder_7d493 l D cy adK adV v) (cwV 0 hts (gcV_J0_coder_7d493 hbg wm_36_3) rfl rfl rfl kdJ0_coder_7d493 ⟨Nat.le_of_ble_eq_true rfl, Nat.le_of_ble_eq_true rfl⟩) rfl hP hK hD hN hV hS hA rfl hl rfl (Nat.le_of_ble_eq_true rfl) dJ0_length_8abf5_6 ⟨Nat.zero_le _, Nat.zero_le _⟩ (fun H locs hP hD hS => ?_)
  refine lv_ishr hx hb dJ0_length_8abf5_9 ?_
  exact x_iret hx hb hr hlocks hK hP hD hS dJ0_length_8abf5_10
def rmJ1_canEncode_9a6ad : Room := { frames := 0, cells := 0, slots := 0, locals := 0 }
theorem kdJ1_canEncode_9a6ad : yJ1_canEncode_9a6ad.cls ≠ "java/lang/invoke/MethodHandle" ∧ yJ1_canEncode_9a6ad.cls ≠ "java/lang/invoke/VarHandle" ∧ (parseMethodDescriptor yJ1_canEncode_9a6ad.desc).map (fun d => d.parameters.length) = some 1 := by decide +kernel
set_option maxHeartbeats 4000000 in
set_option maxRecDepth 100000 in
theorem mJ1_canEncode_9a6ad (l : Launch) (D : va_G) (cy : Nat → ClassId) (adK adV : Nat → Nat) (v : Int32) : jM l D cy adK adV yJ1_canEncode_9a6ad aJ1_canEncode_9a6ad rmJ1_canEncode_9a6ad ([.int v] : List Value) (if v < 0 then 0 else if 255 < v then 0 else 1) := by
  intro hz
  refine j_start (Qc := xQi D cy _ (if v < 0 then 0 else if 255 < v then 0 else 1)) (cc := cJ1_canEncode_9a6ad) (maxL := 1) (ret := some .boolean) (by decide) rfl (Nat.le_of_ble_eq_true rfl) (lv := [(0, .int v)]) rfl ?_
  intro p e s m below meth c ls A hx hb hr hml hown hts hlocks hK hS hA hN hV hl
  have hown : s.vm.findClass RJ1 = some m.cls := hown
  have hP : va_P D vwCl [] s.heap := nil_P
  have hD : va_D A [] := nil_D
  have hbg : ∀ w ∈ wsL_law, w ∈ aJ1_canEncode_9a6ad := fun w h => List.mem_cons_of_mem _ h
  have hCS := hN.2.1
  have hV0 := hV.1 0 (by decide)
  refine lv_iload_n hx hb dJ1_canEncode_9a6ad_0 rfl (lv_at hl 0 rfl) ?_
  refine lv_if_lt (tgt := 15) hx hb dJ1_canEncode_9a6ad_1 (by decide) (fun c1 => ?_) (fun c1 => ?_)
  · rw [if_pos c1]
    refine lv_iconst (v := 0) hx hb dJ1_canEncode_9a6ad_15 (by decide) ?_
    exact x_zret hx hb hr hlocks hK hP hD hS rfl dJ1_canEncode_9a6ad_16
  · rw [if_neg c1]
    refine lv_iload_n hx hb dJ1_canEncode_9a6ad_4 rfl (lv_at hl 0 rfl) ?_
    refine lv_sipush (v := 255) hx hb dJ1_canEncode_9a6ad_5 (by decide) ?_
    refine lv_icmp_gt (tgt := 15) hx hb dJ1_canEncode_9a6ad_8 (by decide) (fun c2 => ?_) (fun c2 => ?_)
    · rw [if_pos c2]
      refine lv_iconst (v := 0) hx hb dJ1_canEncode_9a6ad_15 (by decide) ?_
      exact x_zret hx hb hr hlocks hK hP hD hS rfl dJ1_canEncode_9a6ad_16
    · rw [if_neg c2]
      refine lv_iconst (v := 1) hx hb dJ1_canEncode_9a6ad_11 (by decide) ?_
      refine lv_goto (tgt := 16) hx hb dJ1_canEncode_9a6ad_12 (by decide) ?_
      exact x_zret hx hb hr hlocks hK hP hD hS rfl dJ1_canEncode_9a6ad_16
def rmJ1_indexOfChar_4cfef : Room := { frames := 0, cells := 0, slots := 0, locals := 0 }
theorem kdJ1_indexOfChar_4cfef : yJ1_indexOfChar_4cfef.cls ≠ "java/lang/invoke/MethodHandle" ∧ yJ1_indexOfChar_4cfef.cls ≠ "java/lang/invoke/VarHandle" ∧ (parseMethodDescriptor yJ1_indexOfChar_4cfef.desc).map (fun d => d.parameters.length) = some 4 := by decide +kernel
set_option maxHeartbeats 4000000 in
set_option maxRecDepth 100000 in
theorem mJ1_indexOfChar_4cfef (l : Launch) (D : va_G) (cy : Nat → ClassId) (adK adV : Nat → Nat) (v : Int32) : jM l D cy adK adV yJ1_indexOfChar_4cfef aJ1_indexOfChar_4cfef rmJ1_indexOfChar_4cfef ([.ref (adV 0), .int v, .int 0, .int 6] : List Value) (ixB v.toInt8.toInt32) := by
  intro hz
  refine j_start (Qc := xQi D cy _ (ixB v.toInt8.toInt32)) (cc := cJ1_indexOfChar_4cfef) (maxL := 6) (ret := some .int) (by decide) rfl (Nat.le_of_ble_eq_true rfl) (lv := [(0, .ref (adV 0)), (1, .int v), (2, .int 0), (3, .int 6)]) rfl ?_
  intro p e s m below meth c ls A hx hb hr hml hown hts hlocks hK hS hA hN hV hl
  have hown : s.vm.findClass RJ1 = some m.cls := hown
  have hP : va_P D vwCl [] s.heap := nil_P
  have hD : va_D A [] := nil_D
  have hbg : ∀ w ∈ wsL_law, w ∈ aJ1_indexOfChar_4cfef := fun w h => List.mem_cons_of_mem _ h
  have hCS := hN.2.1
  have hV0 := hV.1 0 (by decide)
  refine lv_iload_n hx hb dJ1_indexOfChar_4cfef_0 rfl (lv_at hl 1 rfl) ?_
  refine lv_i2b (v := v.toInt8.toInt32) hx hb dJ1_indexOfChar_4cfef_1 rfl ?_
  refine lv_topi (fun b eb => ?_)
  refine lv_istore (lv' := [(4, .int b), (0, .ref (adV 0)), (1, .int v), (2, .int 0), (3, .int 6)]) hx hb dJ1_indexOfChar_4cfef_2 hl (by decide) rfl (fun ls hl => ?_)
  rw [← eb]
  refine lv_iload_n hx hb dJ1_indexOfChar_4cfef_4 rfl (lv_at hl 3 rfl) ?_
  refine lv_istore (lv' := [(5, .int 0), (4, .int b), (0, .ref (adV 0)), (1, .int v), (2, .int 0), (3, .int 6)]) hx hb dJ1_indexOfChar_4cfef_5 hl (by decide) rfl (fun ls hl => ?_)
  unfold ixB
  refine lv_iload hx hb dJ1_indexOfChar_4cfef_7 (lv_at hl 0 rfl) ?_
  refine lv_iload_n hx hb dJ1_indexOfChar_4cfef_9 rfl (lv_at hl 5 rfl) ?_
  refine lv_icmp_ge (tgt := 31) hx hb dJ1_indexOfChar_4cfef_10 (by decide) (fun c1 => absurd c1 (by decide)) (fun c1 => ?_)
  refine lv_aload_n hx hb dJ1_indexOfChar_4cfef_13 rfl (lv_at hl 2 rfl) ?_
  refine lv_iload hx hb dJ1_indexOfChar_4cfef_14 (lv_at hl 0 rfl) ?_
  refine va_tb hx hb hV0.2.2.2 hS (i := 0) (vp_in_iff.mpr (by decide)) (v := .int 114) rfl dJ1_indexOfChar_4cfef_16 ?_
  refine lv_iload hx hb dJ1_indexOfChar_4cfef_17 (lv_at hl 1 rfl) ?_
  refine lv_icmp_ne (tgt := 25) hx hb dJ1_indexOfChar_4cfef_19 (by decide) (fun q0 => ?_) (fun q0 => ?_)
  rotate_left
  · rw [if_pos q0]
    refine lv_iload hx hb dJ1_indexOfChar_4cfef_22 (lv_at hl 0 rfl) ?_
    exact x_iret hx hb hr hlocks hK hP hD hS dJ1_indexOfChar_4cfef_24
  rw [if_neg q0]
  refine lv_iinc (v := 1) (lv' := [(5, .int 1), (4, .int b), (0, .ref (adV 0)), (1, .int v), (2, .int 0), (3, .int 6)]) hx hb dJ1_indexOfChar_4cfef_25 hl (k := 0) rfl (by decide) (by decide) rfl (fun ls hl => ?_)
  refine lv_goto (tgt := 7) hx hb dJ1_indexOfChar_4cfef_28 (by decide) ?_
  refine lv_iload hx hb dJ1_indexOfChar_4cfef_7 (lv_at hl 0 rfl) ?_
  refine lv_iload_n hx hb dJ1_indexOfChar_4cfef_9 rfl (lv_at hl 5 rfl) ?_
  refine lv_icmp_ge (tgt := 31) hx hb dJ1_indexOfChar_4cfef_10 (by decide) (fun c1 => absurd c1 (by decide)) (fun c1 => ?_)
  refine lv_aload_n hx hb dJ1_indexOfChar_4cfef_13 rfl (lv_at hl 2 rfl) ?_
  refine lv_iload hx hb dJ1_indexOfChar_4cfef_14 (lv_at hl 0 rfl) ?_
  refine va_tb hx hb hV0.2.2.2 hS (i := 1) (vp_in_iff.mpr (by decide)) (v := .int 112) rfl dJ1_indexOfChar_4cfef_16 ?_
  refine lv_iload hx hb dJ1_indexOfChar_4cfef_17 (lv_at hl 1 rfl) ?_
  refine lv_icmp_ne (tgt := 25) hx hb dJ1_indexOfChar_4cfef_19 (by decide) (fun q1 => ?_) (fun q1 => ?_)
  rotate_left
  · rw [if_pos q1]
    refine lv_iload hx hb dJ1_indexOfChar_4cfef_22 (lv_at hl 0 rfl) ?_
    exact x_iret hx hb hr hlocks hK hP hD hS dJ1_indexOfChar_4cfef_24
  rw [if_neg q1]
  refine lv_iinc (v := 2) (lv' := [(5, .int 2), (4, .int b), (0, .ref (adV 0)), (1, .int v), (2, .int 0), (3, .int 6)]) hx hb dJ1_indexOfChar_4cfef_25 hl (k := 0) rfl (by decide) (by decide) rfl (fun ls hl => ?_)
  refine lv_goto (tgt := 7) hx hb dJ1_indexOfChar_4cfef_28 (by decide) ?_
  refine lv_iload hx hb dJ1_indexOfChar_4cfef_7 (lv_at hl 0 rfl) ?_
  refine lv_iload_n hx hb dJ1_indexOfChar_4cfef_9 rfl (lv_at hl 5 rfl) ?_
  refine lv_icmp_ge (tgt := 31) hx hb dJ1_indexOfChar_4cfef_10 (by decide) (fun c1 => absurd c1 (by decide)) (fun c1 => ?_)
  refine lv_aload_n hx hb dJ1_indexOfChar_4cfef_13 rfl (lv_at hl 2 rfl) ?_
  refine lv_iload hx hb dJ1_indexOfChar_4cfef_14 (lv_at hl 0 rfl) ?_
  refine va_tb hx hb hV0.2.2.2 hS (i := 2) (vp_in_iff.mpr (by decide)) (v := .int 116) rfl dJ1_indexOfChar_4cfef_16 ?_
  refine lv_iload hx hb dJ1_indexOfChar_4cfef_17 (lv_at hl 1 rfl) ?_
  refine lv_icmp_ne (tgt := 25) hx hb dJ1_indexOfChar_4cfef_19 (by decide) (fun q2 => ?_) (fun q2 => ?_)
  rotate_left
  · rw [if_pos q2]
    refine lv_iload hx hb dJ1_indexOfChar_4cfef_22 (lv_at hl 0 rfl) ?_
    exact x_iret hx hb hr hlocks hK hP hD hS dJ1_indexOfChar_4cfef_24
  rw [if_neg q2]
  refine lv_iinc (v := 3) (lv' := [(5, .int 3), (4, .int b), (0, .ref (adV 0)), (1, .int v), (2, .int 0), (3, .int 6)]) hx hb dJ1_indexOfChar_4cfef_25 hl (k := 0) rfl (by decide) (by decide) rfl (fun ls hl => ?_)
  refine lv_goto (tgt := 7) hx hb dJ1_indexOfChar_4cfef_28 (by decide) ?_
  refine lv_iload hx hb dJ1_indexOfChar_4cfef_7 (lv_at hl 0 rfl) ?_
  refine lv_iload_n hx hb dJ1_indexOfChar_4cfef_9 rfl (lv_at hl 5 rfl) ?_
  refine lv_icmp_ge (tgt := 31) hx hb dJ1_indexOfChar_4cfef_10 (by decide) (fun c1 => absurd c1 (by decide)) (fun c1 => ?_)
  refine lv_aload_n hx hb dJ1_indexOfChar_4cfef_13 rfl (lv_at hl 2 rfl) ?_
  refine lv_iload hx hb dJ1_indexOfChar_4cfef_14 (lv_at hl 0 rfl) ?_
  refine va_tb hx hb hV0.2.2.2 hS (i := 3) (vp_in_iff.mpr (by decide)) (v := .int 98) rfl dJ1_indexOfChar_4cfef_16 ?_
  refine lv_iload hx hb dJ1_indexOfChar_4cfef_17 (lv_at hl 1 rfl) ?_
  refine lv_icmp_ne (tgt := 25) hx hb dJ1_indexOfChar_4cfef_19 (by decide) (fun q3 => ?_) (fun q3 => ?_)
  rotate_left
  · rw [if_pos q3]
    refine lv_iload hx hb dJ1_indexOfChar_4cfef_22 (lv_at hl 0 rfl) ?_
    exact x_iret hx hb hr hlocks hK hP hD hS dJ1_indexOfChar_4cfef_24
  rw [if_neg q3]
  refine lv_iinc (v := 4) (lv' := [(5, .int 4), (4, .int b), (0, .ref (adV 0)), (1, .int v), (2, .int 0), (3, .int 6)]) hx hb dJ1_indexOfChar_4cfef_25 hl (k := 0) rfl (by decide) (by decide) rfl (fun ls hl => ?_)
  refine lv_goto (tgt := 7) hx hb dJ1_indexOfChar_4cfef_28 (by decide) ?_
  refine lv_iload hx hb dJ1_indexOfChar_4cfef_7 (lv_at hl 0 rfl) ?_
  refine lv_iload_n hx hb dJ1_indexOfChar_4cfef_9 rfl (lv_at hl 5 rfl) ?_
  refine lv_icmp_ge (tgt := 31) hx hb dJ1_indexOfChar_4cfef_10 (by decide) (fun c1 => absurd c1 (by decide)) (fun c1 => ?_)
  refine lv_aload_n hx hb dJ1_indexOfChar_4cfef_13 rfl (lv_at hl 2 rfl) ?_
  refine lv_iload hx hb dJ1_indexOfChar_4cfef_14 (lv_at hl 0 rfl) ?_
  refine va_tb hx hb hV0.2.2.2 hS (i := 4) (vp_in_iff.mpr (by decide)) (v := .int 115) rfl dJ1_indexOfChar_4cfef_16 ?_
  refine lv_iload hx hb dJ1_indexOfChar_4cfef_17 (lv_at hl 1 rfl) ?_
  refine lv_icmp_ne (tgt := 25) hx hb dJ1_indexOfChar_4cfef_19 (by decide) (fun q4 => ?_) (fun q4 => ?_)
  rotate_left
  · rw [if_pos q4]
    refine lv_iload hx hb dJ1_indexOfChar_4cfef_22 (lv_at hl 0 rfl) ?_
    exact x_iret hx hb hr hlocks hK hP hD hS dJ1_indexOfChar_4cfef_24
  rw [if_neg q4]
  refine lv_iinc (v := 5) (lv' := [(5, .int 5), (4, .int b), (0, .ref (adV 0)), (1, .int v), (2, .int 0), (3, .int 6)]) hx hb dJ1_indexOfChar_4cfef_25 hl (k := 0) rfl (by decide) (by decide) rfl (fun ls hl => ?_)
  refine lv_goto (tgt := 7) hx hb dJ1_indexOfChar_4cfef_28 (by decide) ?_
  refine lv_iload hx hb dJ1_indexOfChar_4cfef_7 (lv_at hl 0 rfl) ?_
  refine lv_iload_n hx hb dJ1_indexOfChar_4cfef_9 rfl (lv_at hl 5 rfl) ?_
  refine lv_icmp_ge (tgt := 31) hx hb dJ1_indexOfChar_4cfef_10 (by decide) (fun c1 => absurd c1 (by decide)) (fun c1 => ?_)
  refine lv_aload_n hx hb dJ1_indexOfChar_4cfef_13 rfl (lv_at hl 2 rfl) ?_
  refine lv_iload hx hb dJ1_indexOfChar_4cfef_14 (lv_at hl 0 rfl) ?_
  refine va_tb hx hb hV0.2.2.2 hS (i := 5) (vp_in_iff.mpr (by decide)) (v := .int 100) rfl dJ1_indexOfChar_4cfef_16 ?_
  refine lv_iload hx hb dJ1_indexOfChar_4cfef_17 (lv_at hl 1 rfl) ?_
  refine lv_icmp_ne (tgt := 25) hx hb dJ1_indexOfChar_4cfef_19 (by decide) (fun q5 => ?_) (fun q5 => ?_)
  rotate_left
  · rw [if_pos q5]
    refine lv_iload hx hb dJ1_indexOfChar_4cfef_22 (lv_at hl 0 rfl) ?_
    exact x_iret hx hb hr hlocks hK hP hD hS dJ1_indexOfChar_4cfef_24
  rw [if_neg q5]
  refine lv_iinc (v := 6) (lv' := [(5, .int 6), (4, .int b), (0, .ref (adV 0)), (1, .int v), (2, .int 0), (3, .int 6)]) hx hb dJ1_indexOfChar_4cfef_25 hl (k := 0) rfl (by decide) (by decide) rfl (fun ls hl => ?_)
  refine lv_goto (tgt := 7) hx hb dJ1_indexOfChar_4cfef_28 (by decide) ?_
  refine lv_iload hx hb dJ1_indexOfChar_4cfef_7 (lv_at hl 0 rfl) ?_
  refine lv_iload_n hx hb dJ1_indexOfChar_4cfef_9 rfl (lv_at hl 5 rfl) ?_
  refine lv_icmp_ge (tgt := 31) hx hb dJ1_indexOfChar_4cfef_10 (by decide) (fun c1 => ?_) (fun c1 => absurd (by decide) c1)
  refine lv_iconst (v := (-1)) hx hb dJ1_indexOfChar_4cfef_31 (by decide) ?_
  exact x_iret hx hb hr hlocks hK hP hD hS dJ1_indexOfChar_4cfef_32
def rmJ1_indexOf_4cfef : Room := { frames := 1, cells := 0, slots := 0, locals := 38 }
theorem kdJ1_indexOf_4cfef : yJ1_indexOf_4cfef.cls ≠ "java/lang/invoke/MethodHandle" ∧ yJ1_indexOf_4cfef.cls ≠ "java/lang/invoke/VarHandle" ∧ (parseMethodDescriptor yJ1_indexOf_4cfef.desc).map (fun d => d.parameters.length) = some 4 := by decide +kernel
set_option maxHeartbeats 4000000 in
set_option maxRecDepth 100000 in
theorem mJ1_indexOf_4cfef (l : Launch) (D : va_G) (cy : Nat → ClassId) (adK adV : Nat → Nat) (v : Int32) : jM l D cy adK adV yJ1_indexOf_4cfef aJ1_indexOf_4cfef rmJ1_indexOf_4cfef ([.ref (adV 0), .int v, .int 0, .int 6] : List Value) (ixL v) := by
  intro hz
  refine j_start (Qc := xQi D cy _ (ixL v)) (cc := cJ1_indexOf_4cfef) (maxL := 4) (ret := some .int) (by decide) rfl (Nat.le_of_ble_eq_true rfl) (lv := [(0, .ref (adV 0)), (1, .int v), (2, .int 0), (3, .int 6)]) rfl ?_
  intro p e s m below meth c ls A hx hb hr hml hown hts hlocks hK hS hA hN hV hl
  have hown : s.vm.findClass RJ1 = some m.cls := hown
  have hP : va_P D vwCl [] s.heap := nil_P
  have hD : va_D A [] := nil_D
  have hbg : ∀ w ∈ wsL_law, w ∈ aJ1_indexOf_4cfef := fun w h => List.mem_cons_of_mem _ h
  have hCS := hN.2.1
  have hV0 := hV.1 0 (by decide)
  have a1 : (Cond.methodLink RJ1 92 Lib.Math.max.name).before ([.ref (adV 0), .int v, .int 0, .int 6] : List Value).toArray s = true := hts _ (List.mem_cons_of_mem _ wm_36_11)
  have a2 : (Cond.static Lib.Math.max.name).before ([.ref (adV 0), .int v, .int 0, .int 6] : List Value).toArray s = true := hts _ (List.mem_cons_of_mem _ wm_36_12)
  have a3 : (Cond.initialized "java/lang/Math").before ([.ref (adV 0), .int v, .int 0, .int 6] : List Value).toArray s = true := hts _ (List.mem_cons_of_mem _ wm_6_17)
  have a4 : (Cond.code Lib.Math.max.name Lib.Math.max.code 2 (some .int)).before ([.ref (adV 0), .int v, .int 0, .int 6] : List Value).toArray s = true := hts _ (List.mem_cons_of_mem _ wm_36_13)
  have b1 : (Cond.methodLink RJ1 38 Lib.Math.min.name).before ([.ref (adV 0), .int v, .int 0, .int 6] : List Value).toArray s = true := hts _ (List.mem_cons_of_mem _ wm_36_14)
  have b2 : (Cond.static Lib.Math.min.name).before ([.ref (adV 0), .int v, .int 0, .int 6] : List Value).toArray s = true := hts _ (List.mem_cons_of_mem _ wm_6_16)
  have b4 : (Cond.code Lib.Math.min.name Lib.Math.min.code 2 (some .int)).before ([.ref (adV 0), .int v, .int 0, .int 6] : List Value).toArray s = true := hts _ (List.mem_cons_of_mem _ wm_6_18)
  refine lv_iload_n hx hb dJ1_indexOf_4cfef_0 rfl (lv_at hl 1 rfl) ?_
  refine j_callS (As := [.int v]) (rest := []) ⟨hx, hb, hml, hown, hts⟩ (mJ1_canEncode_9a6ad l D cy adK adV v) (va_cwS 1 hts (gcS_J1_canEncode_9a6ad hbg wm_36_15) rfl rfl rfl kdJ1_canEncode_9a6ad ⟨Nat.le_of_ble_eq_true rfl, Nat.le_of_ble_eq_true rfl⟩) hP hK hD hN hV hS hA rfl hl rfl (Nat.le_of_ble_eq_true rfl) dJ1_indexOf_4cfef_1 ⟨Nat.zero_le _, Nat.zero_le _⟩ (fun H locs hP hD hS => ?_)
  refine lv_if_ne (tgt := 9) hx hb dJ1_indexOf_4cfef_4 (by decide) (fun c1 => ?_) (fun c1 => ?_)
  · have e : ixL v = ixB v.toInt8.toInt32 := by
      unfold ixL
      by_cases h0 : v < 0
      · rw [if_pos h0] at c1; exact absurd rfl c1
      · rw [if_neg h0] at c1 ⊢
        by_cases h1 : 255 < v
        · rw [if_pos h1] at c1; exact absurd rfl c1
        · rw [if_neg h1]
    rw [e]
    refine lv_iload_n hx hb dJ1_indexOf_4cfef_9 rfl (lv_at hl 2 rfl) ?_
    refine lv_iconst (v := 0) hx hb dJ1_indexOf_4cfef_10 (by decide) ?_
    refine va_mmax hx hb (hml.trans hl.1.symm) hown a1 a2 a3 a4 (Nat.le_of_ble_eq_true rfl) (Nat.le_of_ble_eq_true rfl) (Nat.zero_le _) (Nat.zero_le _) dJ1_indexOf_4cfef_11 ?_
    refine lv_istore_n (x := 0) (lv' := [(2, .int 0), (0, .ref (adV 0)), (1, .int v), (3, .int 6)]) hx hb dJ1_indexOf_4cfef_14 rfl hl (by decide) rfl (fun ls hl => ?_)
    refine lv_iload_n hx hb dJ1_indexOf_4cfef_15 rfl (lv_at hl 3 rfl) ?_
    refine lv_aload_n hx hb dJ1_indexOf_4cfef_16 rfl (lv_at hl 1 rfl) ?_
    refine va_tlen hx hb hV0.2.2.2 hS (v := 6) rfl dJ1_indexOf_4cfef_17 ?_
    refine va_mmin hx hb (hml.trans hl.1.symm) hown b1 b2 a3 b4 (Nat.le_of_ble_eq_true rfl) (Nat.le_of_ble_eq_true rfl) (Nat.zero_le _) (Nat.zero_le _) dJ1_indexOf_4cfef_18 ?_
    refine lv_istore_n (x := 6) (lv' := [(3, .int 6), (2, .int 0), (0, .ref (adV 0)), (1, .int v)]) hx hb dJ1_indexOf_4cfef_21 rfl hl (by decide) rfl (fun ls hl => ?_)
    refine lv_iload_n hx hb dJ1_indexOf_4cfef_22 rfl (lv_at hl 1 rfl) ?_
    refine lv_iload_n hx hb dJ1_indexOf_4cfef_23 rfl (lv_at hl 0 rfl) ?_
    refine lv_icmp_lt (tgt := 29) hx hb dJ1_indexOf_4cfef_24 (by decide) (fun c2 => ?_) (fun c2 => absurd (by decide) c2)
    refine lv_aload_n hx hb dJ1_indexOf_4cfef_29 rfl (lv_at hl 2 rfl) ?_
    refine lv_iload_n hx hb dJ1_indexOf_4cfef_30 rfl (lv_at hl 3 rfl) ?_
    refine lv_iload_n hx hb dJ1_indexOf_4cfef_31 rfl (lv_at hl 1 rfl) ?_
    refine lv_iload_n hx hb dJ1_indexOf_4cfef_32 rfl (lv_at hl 0 rfl) ?_
    refine j_callS (As := [.ref (adV 0), .int v, .int 0, .int 6]) (rest := []) ⟨hx, hb, hml, hown, hts⟩ (mJ1_indexOfChar_4cfef l D cy adK adV v) (va_cwS 4 hts (gcS_J1_indexOfChar_4cfef hbg wm_36_18) rfl rfl rfl kdJ1_indexOfChar_4cfef ⟨Nat.le_of_ble_eq_true rfl, Nat.le_of_ble_eq_true rfl⟩) hP hK hD hN hV hS hA rfl hl rfl (Nat.le_of_ble_eq_true rfl) dJ1_indexOf_4cfef_33 ⟨Nat.zero_le _, Nat.zero_le _⟩ (fun H locs hP hD hS => ?_)
    exact x_iret hx hb hr hlocks hK hP hD hS dJ1_indexOf_4cfef_36
  · have e : ixL v = -1 := by
      unfold ixL
      by_cases h0 : v < 0
      · rw [if_pos h0]
      · rw [if_neg h0] at c1 ⊢
        by_cases h1 : 255 < v
        · rw [if_pos h1]
        · rw [if_neg h1] at c1; exact absurd c1 (by decide)
    rw [e]
    refine lv_iconst (v := (-1)) hx hb dJ1_indexOf_4cfef_7 (by decide) ?_
    exact x_iret hx hb hr hlocks hK hP hD hS dJ1_indexOf_4cfef_8
def rmJ0_indexOf_7cf53 : Room := { frames := 2, cells := 0, slots := 0, locals := 61 }
theorem kdJ0_indexOf_7cf53 : yJ0_indexOf_7cf53.cls = RJ0 ∧ yJ0_indexOf_7cf53.cls ≠ "java/lang/invoke/MethodHandle" ∧ yJ0_indexOf_7cf53.cls ≠ "java/lang/invoke/VarHandle" ∧ (parseMethodDescriptor yJ0_indexOf_7cf53.desc).map (fun d => d.parameters.length) = some 2 := by decide +kernel
set_option maxHeartbeats 4000000 in
set_option maxRecDepth 100000 in
theorem mJ0_indexOf_7cf53 (l : Launch) (D : va_G) (cy : Nat → ClassId) (adK adV : Nat → Nat) (v : Int32) : jM l D cy adK adV yJ0_indexOf_7cf53 aJ0_indexOf_7cf53 rmJ0_indexOf_7cf53 ([.ref (adK 0), .int v, .int 0] : List Value) (ixL v) := by
  intro hz
  refine j_start (Qc := xQi D cy _ (ixL v)) (cc := cJ0_indexOf_7cf53) (maxL := 3) (ret := some .int) (by decide) rfl (Nat.le_of_ble_eq_true rfl) (lv := [(0, .ref (adK 0)), (1, .int v), (2, .int 0)]) rfl ?_
  intro p e s m below meth c ls A hx hb hr hml hown hts hlocks hK hS hA hN hV hl
  have hown : s.vm.findClass RJ0 = some m.cls := hown
  have hP : va_P D vwCl [] s.heap := nil_P
  have hD : va_D A [] := nil_D
  have hbg : ∀ w ∈ wsL_law, w ∈ aJ0_indexOf_7cf53 := fun w h => List.mem_cons_of_mem _ h
  have hCS := hN.2.1
  have hV0 := hV.1 0 (by decide)
  have w1 : (Cond.fieldLink RJ0 9 "java/lang/String" "value" "[B").before ([.ref (adK 0), .int v, .int 0] : List Value).toArray s = true := hts _ (List.mem_cons_of_mem _ wm_35_16)
  refine lv_aload_n hx hb dJ0_indexOf_7cf53_0 rfl (lv_at hl 0 rfl) ?_
  refine j_callV (As := []) (rest := []) ⟨hx, hb, hml, hown, hts⟩ (mJ0_isLatin1_aae02 l D cy adK adV v) (cwV 0 hts (gcV_J0_isLatin1_aae02 hbg wm_35_17) rfl rfl rfl kdJ0_isLatin1_aae02 ⟨Nat.le_of_ble_eq_true rfl, Nat.le_of_ble_eq_true rfl⟩) rfl hP hK hD hN hV hS hA rfl hl rfl (Nat.le_of_ble_eq_true rfl) dJ0_indexOf_7cf53_1 ⟨Nat.zero_le _, Nat.zero_le _⟩ (fun H locs hP hD hS => ?_)
  refine lv_if_eq (tgt := 23) hx hb dJ0_indexOf_7cf53_4 (by decide) (fun c1 => absurd c1 (by decide)) (fun c1 => ?_)
  refine lv_aload_n hx hb dJ0_indexOf_7cf53_7 rfl (lv_at hl 0 rfl) ?_
  refine vk_getf hx hb hV0.2.2.1 hS hown w1 (fun _ h => h) dJ0_indexOf_7cf53_8 ?_
  refine lv_iload_n hx hb dJ0_indexOf_7cf53_11 rfl (lv_at hl 1 rfl) ?_
  refine lv_iload_n hx hb dJ0_indexOf_7cf53_12 rfl (lv_at hl 2 rfl) ?_
  refine lv_aload_n hx hb dJ0_indexOf_7cf53_13 rfl (lv_at hl 0 rfl) ?_
  refine j_callV (As := []) (rest := [.int 0, .int v, .ref (adV 0)]) ⟨hx, hb, hml, hown, hts⟩ (mJ0_length_8abf5 l D cy adK adV v) (cwV 0 hts (gcV_J0_length_8abf5 hbg wm_35_23) rfl rfl rfl kdJ0_length_8abf5 ⟨Nat.le_of_ble_eq_true rfl, Nat.le_of_ble_eq_true rfl⟩) rfl hP hK hD hN hV hS hA rfl hl rfl (Nat.le_of_ble_eq_true rfl) dJ0_indexOf_7cf53_14 ⟨Nat.zero_le _, Nat.zero_le _⟩ (fun H locs hP hD hS => ?_)
  refine j_callS (As := [.ref (adV 0), .int v, .int 0, .int 6]) (rest := []) ⟨hx, hb, hml, hown, hts⟩ (mJ1_indexOf_4cfef l D cy adK adV v) (va_cwS 4 hts (gcS_J1_indexOf_4cfef hbg wm_36_7) rfl rfl rfl kdJ1_indexOf_4cfef ⟨Nat.le_of_ble_eq_true rfl, Nat.le_of_ble_eq_true rfl⟩) hP hK hD hN hV hS hA rfl hl rfl (Nat.le_of_ble_eq_true rfl) dJ0_indexOf_7cf53_17 ⟨Nat.zero_le _, Nat.zero_le _⟩ (fun H locs hP hD hS => ?_)
  refine lv_goto (tgt := 36) hx hb dJ0_indexOf_7cf53_20 (by decide) ?_
  exact x_iret hx hb hr hlocks hK hP hD hS dJ0_indexOf_7cf53_36
def rmJ0_indexOf_0f7a4 : Room := { frames := 3, cells := 0, slots := 0, locals := 83 }
theorem kdJ0_indexOf_0f7a4 : yJ0_indexOf_0f7a4.cls = RJ0 ∧ yJ0_indexOf_0f7a4.cls ≠ "java/lang/invoke/MethodHandle" ∧ yJ0_indexOf_0f7a4.cls ≠ "java/lang/invoke/VarHandle" ∧ (parseMethodDescriptor yJ0_indexOf_0f7a4.desc).map (fun d => d.parameters.length) = some 1 := by decide +kernel
set_option maxHeartbeats 4000000 in
set_option maxRecDepth 100000 in
theorem mJ0_indexOf_0f7a4 (l : Launch) (D : va_G) (cy : Nat → ClassId) (adK adV : Nat → Nat) (v : Int32) : jM l D cy adK adV yJ0_indexOf_0f7a4 aJ0_indexOf_0f7a4 rmJ0_indexOf_0f7a4 ([.ref (adK 0), .int v] : List Value) (ixL v) := by
  intro hz
  refine j_start (Qc := xQi D cy _ (ixL v)) (cc := cJ0_indexOf_0f7a4) (maxL := 2) (ret := some .int) (by decide) rfl (Nat.le_of_ble_eq_true rfl) (lv := [(0, .ref (adK 0)), (1, .int v)]) rfl ?_
  intro p e s m below meth c ls A hx hb hr hml hown hts hlocks hK hS hA hN hV hl
  have hown : s.vm.findClass RJ0 = some m.cls := hown
  have hP : va_P D vwCl [] s.heap := nil_P
  have hD : va_D A [] := nil_D
  have hbg : ∀ w ∈ wsL_law, w ∈ aJ0_indexOf_0f7a4 := fun w h => List.mem_cons_of_mem _ h
  have hCS := hN.2.1
  have hV0 := hV.1 0 (by decide)
  refine lv_aload_n hx hb dJ0_indexOf_0f7a4_0 rfl (lv_at hl 0 rfl) ?_
  refine lv_iload_n hx hb dJ0_indexOf_0f7a4_1 rfl (lv_at hl 1 rfl) ?_
  refine lv_iconst (v := 0) hx hb dJ0_indexOf_0f7a4_2 (by decide) ?_
  refine j_callV (As := [.int v, .int 0]) (rest := []) ⟨hx, hb, hml, hown, hts⟩ (mJ0_indexOf_7cf53 l D cy adK adV v) (cwV 2 hts (gcV_J0_indexOf_7cf53 hbg wm_35_12) rfl rfl rfl kdJ0_indexOf_7cf53 ⟨Nat.le_of_ble_eq_true rfl, Nat.le_of_ble_eq_true rfl⟩) rfl hP hK hD hN hV hS hA rfl hl rfl (Nat.le_of_ble_eq_true rfl) dJ0_indexOf_0f7a4_3 ⟨Nat.zero_le _, Nat.zero_le _⟩ (fun H locs hP hD hS => ?_)
  exact x_iret hx hb hr hlocks hK hP hD hS dJ0_indexOf_0f7a4_6
theorem x_ixOf {p : Program} {l : Launch} {e : Env} {R : Room} {s : State} {m : MethodId} {args : Array Value} {below : List Frame} {meth : Method} {c : Code} {H : Heap} {locs : List Loc} {cells slots : Nat} {Q : State → Prop} {D : va_G} {cy : Nat → ClassId} {adK adV : Nat → Nat} {w : va_W} {A : Nat → Prop} {pc nL index : Nat} {ls : Array Slot} {rest : List Value} {cc : ByteArray} {Ts : List Cond} {own tx : String} {k : Nat} {lv : List (Nat × Value)} {v : Int32} (S : CallFix p m c cc nL s args Ts own) (hG : GoodIn Ts (wsV own index RJ0 yJ0_indexOf_0f7a4 aJ0_indexOf_0f7a4)) (hK : va_K D vwCl (xTy cy) s) (hP : va_P D vwCl w H) (hD : va_D A w) (hN : nb_ok A s) (_hR : vk_R own k tx (adK 0) s) (hV : vk_S 1 [6] [[114, 112, 116, 98, 115, 100]] adK adV A s s.heap) (hS : va_S A s.heap H locs) (hA : ∀ q, s.heap.size ≤ q → A q) (hl : lv_has ls nL lv) (hW : (rest.map fun v => v.category).sum ≤ 8) (hdg : decode cc pc = .ok (.invokevirtual index, 3)) (hR : rmJ0_indexOf_0f7a4.frames + 1 ≤ R.frames ∧ 8 + (2 + 11) + rmJ0_indexOf_0f7a4.locals ≤ R.locals) (hf : cells ≤ R.cells ∧ slots ≤ R.slots)
    (kk : ∀ (H1 : Heap) (locs1 : List Loc), va_P D vwCl w H1 → va_D A w → va_S A s.heap H1 locs1 → W p l e R s m args below meth c H1 locs1 cells slots Q (F0 m (pc + 3) ls (.int (ixOf v) :: rest))) : W p l e R s m args below meth c H locs cells slots Q (F0 m pc ls (.int v :: .ref (adK 0) :: rest)) := by
  rw [← ixL_eq] at kk
  exact j_callV (As := [.int v]) S (mJ0_indexOf_0f7a4 l D cy adK adV v) (cwV 1 S.2.2.2.2 hG rfl rfl rfl kdJ0_indexOf_0f7a4 hR) rfl hP hK hD hN hV hS hA rfl hl rfl hW hdg hf kk
