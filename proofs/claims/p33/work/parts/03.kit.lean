/-! the verifier's own rows: one shape of contract, its start, its calls, its returns; the words of the functions -/
abbrev xTy (cy : Nat → ClassId) : List (ClassId × FieldType) := [(cy 0, .char), (cy 1, .int), (cy 2, .long), (cy 3, .object RX5)]
def nb_l : List (String × Nat × MethodName) := [(RX5, 97, yX7_isAmount), (RX5, 135, yX7_nextCreditDay), (RX7, 9, yX5_init), (RX1, 24, yX5_init), (RX5, 11, yX0_init), (RX5, 20, yX4_init), (RX5, 30, yX6_init), (RX7, 25, yX2_init), (RX7, 32, yX3_init)]
def nb_ok (_A : Nat → Prop) (U : State) : Prop := ((∀ q ∈ nb_l, va_Nw (.methodLinkNest q.1 q.2.1 q.2.2 RX7) U) ∧ va_AO RX5 U) ∧ True
theorem nb_use {A : Nat → Prop} {U : State} (h : nb_ok A U) (i : Nat) {o : String} {k : Nat} {y : MethodName} (hi : nb_l[i]? = some (o, k, y)) : va_Nw (.methodLinkNest o k y RX7) U := h.1.1 (o, k, y) (List.mem_of_getElem? hi)
theorem nb_pass {A B : Nat → Prop} {s U : State} {H : Heap} {locs : List Loc} (hW : s.WarmedH U.vm) (_hU : U.heap = H) (_hS : va_S A s.heap H locs) (_hF : ∀ q, B q → A q) (h : nb_ok A s) : nb_ok B U :=
  ⟨⟨fun q hq => (h.1.1 q hq).warmM hW, h.1.2.moved hW.alike⟩, trivial⟩
theorem nb_same {A : Nat → Prop} {u U : State} (e : u.vm = U.vm) (_eh : u.heap = U.heap) (h : nb_ok A u) : nb_ok A U :=
  ⟨⟨fun q hq => (h.1.1 q hq).same rfl e, h.1.2.moved (e ▸ Vm.Alike.refl u.vm)⟩, trivial⟩
def xPre (D : va_G) (cy : Nat → ClassId) (w : va_W) (hz : Nat) (U : State) : Prop := U.heap.size = hz ∧ va_P D vwCl w U.heap ∧ va_K D vwCl (xTy cy) U ∧ va_D (fun _ => True) w ∧ nb_ok (va_A w hz) U
def xB (D : va_G) (cy : Nat → ClassId) (w' : va_W) (A : Nat → Prop) (t : State) : Prop := va_P D vwCl w' t.heap ∧ va_K D vwCl (xTy cy) t ∧ va_D A w'
def xQi (D : va_G) (cy : Nat → ClassId) (w' : va_W) (r : Int32) (A : Nat → Prop) : Array Value → State → Outcome → State → Prop := va_Qi (S := Unit) (fun r' _ => r' = r) (fun _ t => xB D cy w' A t) A
def xQl (D : va_G) (cy : Nat → ClassId) (w' : va_W) (r : Int64) (A : Nat → Prop) : Array Value → State → Outcome → State → Prop := va_Ql (S := Unit) (fun r' _ => r' = r) (fun _ t => xB D cy w' A t) A
def xQv (D : va_G) (cy : Nat → ClassId) (w' : va_W) (A : Nat → Prop) : Array Value → State → Outcome → State → Prop := va_Qv (S := Unit) (fun _ => True) (fun _ t => xB D cy w' A t) A
def xQq (D : va_G) (cy : Nat → ClassId) (w' : va_W) (r : Option Nat) (A : Nat → Prop) : Array Value → State → Outcome → State → Prop := va_Qq (S := Unit) (fun r' _ => r' = r) (fun _ t => xB D cy w' A t) A
def xMi (l : Launch) (D : va_G) (cy : Nat → ClassId) (y : MethodName) (ws : List Cond) (rm : Room) (av : List Value) (w w' : va_W) (r : Int32) : Prop := ∀ hz, Met l y ws rm (va_Pc av (xPre D cy w hz)) (xQi D cy w' r (va_A w hz)) 0 0 (va_A w hz)
def xMl (l : Launch) (D : va_G) (cy : Nat → ClassId) (y : MethodName) (ws : List Cond) (rm : Room) (av : List Value) (w w' : va_W) (r : Int64) : Prop := ∀ hz, Met l y ws rm (va_Pc av (xPre D cy w hz)) (xQl D cy w' r (va_A w hz)) 0 0 (va_A w hz)
def xMv (l : Launch) (D : va_G) (cy : Nat → ClassId) (y : MethodName) (ws : List Cond) (rm : Room) (av : List Value) (w w' : va_W) : Prop := ∀ hz, Met l y ws rm (va_Pc av (xPre D cy w hz)) (xQv D cy w' (va_A w hz)) 0 0 (va_A w hz)
def xMq (l : Launch) (D : va_G) (cy : Nat → ClassId) (y : MethodName) (ws : List Cond) (rm : Room) (av : List Value) (w w' : va_W) (r : Option Nat) : Prop := ∀ hz, Met l y ws rm (va_Pc av (xPre D cy w hz)) (xQq D cy w' r (va_A w hz)) 0 0 (va_A w hz)
theorem x_start {l : Launch} {D : va_G} {cy : Nat → ClassId} {y : MethodName} {ws ws' : List Cond} {rm : Room} {av : List Value} {w : va_W} {hz : Nat} {cc : ByteArray} {maxL : Nat} {ret : Option FieldType} {Qc : (Nat → Prop) → Array Value → State → Outcome → State → Prop} (hy : plainName y.cls = true) (hw : ws = Cond.code y cc maxL ret :: ws') (hn : (lg_sl av).length ≤ maxL) {lv : List (Nat × Value)} (hlv : lv_args 0 av = lv)
    (body : ∀ (p : Program) (e : Env) (s : State) (m : MethodId) (below : List Frame) (meth : Method) (c : Code) (ls : Array Slot) (A : Nat → Prop), p.tables.exec = Jvm.exec → c.code = cc → meth.sig.returnType = ret → c.maxLocals = maxL → s.vm.findClass y.cls = some m.cls → (∀ w ∈ ws, w.before av.toArray s = true) → meth.locks = false → va_K D vwCl (xTy cy) s → va_P D vwCl w s.heap → va_D A w → va_S A s.heap s.heap [] → (∀ q, s.heap.size ≤ q → A q) → nb_ok A s → lv_has ls maxL lv → W p l e rm s m av.toArray below meth c s.heap [] 0 0 (MQ below (Qc A) av.toArray s 0 0 A) (F0 m 0 ls [])) :
    Met l y ws rm (va_Pc av (xPre D cy w hz)) (Qc (va_A w hz)) 0 0 (va_A w hz) := by
  refine Met.ofW (cc := cc) (maxL := maxL) (ret := ret) hy hw ?_
  intro p e s m args below meth c s₁ B hml hv
  obtain ⟨rfl, hsz, hP, hK, hD0, hN⟩ := hv
  subst hsz
  have hts := atoms_spec (ws := ws) B.pre
  rw [lg_entry_eq]
  have hl := lv_entry av (n := maxL) hn
  rw [hlv] at hl
  exact body p e s m below meth c _ (va_A w s.heap.size) B.exec B.bytes B.returns hml (findClass_of_methodNamed B.named) hts B.notSynchronized hK hP hD0.self va_S.rf (fun q h => Or.inr h) hN hl
theorem va_D.lft {A : Nat → Prop} {a b : va_W} (h : va_D A (a ++ b)) : va_D A a := by
  refine ⟨fun i j p q hi hj e => ?_, fun k q hk => ?_⟩
  · have h1 := (List.getElem?_eq_some_iff.mp hi).1
    have h2 := (List.getElem?_eq_some_iff.mp hj).1
    exact h.1 i j p q (by rw [List.getElem?_append_left h1]; exact hi) (by rw [List.getElem?_append_left h2]; exact hj) e
  · have h1 := (List.getElem?_eq_some_iff.mp hk).1
    exact h.2 k q (by rw [List.getElem?_append_left h1]; exact hk)
theorem va_D.rgt {A : Nat → Prop} {a b : va_W} (h : va_D A (a ++ b)) : va_D A b := by
  have g : ∀ (k : Nat) (q : Nat × va_E), b[k]? = some q → (a ++ b)[a.length + k]? = some q := fun k q hk => by
    rw [List.getElem?_append_right (by omega), show a.length + k - a.length = k by omega]; exact hk
  refine ⟨fun i j p q hi hj e => ?_, fun k q hk => h.2 _ q (g k q hk)⟩
  have := h.1 _ _ p q (g i p hi) (g j q hj) e
  omega
theorem va_D.ne {A : Nat → Prop} {a b : va_W} (h : va_D A (a ++ b)) {x y : Nat × va_E} (hx : x ∈ a) (hy : y ∈ b) : x.1 ≠ y.1 := by
  intro e
  obtain ⟨i, hi⟩ := List.getElem?_of_mem hx
  obtain ⟨j, hj⟩ := List.getElem?_of_mem hy
  have h1 := (List.getElem?_eq_some_iff.mp hi).1
  have := h.1 i (a.length + j) x y (by rw [List.getElem?_append_left h1]; exact hi) (by rw [List.getElem?_append_right (by omega), show a.length + j - a.length = j by omega]; exact hj) e
  omega
theorem va_P.mem {D : va_G} {cl : List vw_C} {ws : va_W} {H : Heap} : va_P D cl ws H ↔ ∀ q ∈ ws, va_at D cl q H := by
  refine ⟨fun h q hq => ?_, fun h k q hk => h q (List.mem_of_getElem? hk)⟩
  obtain ⟨k, hk⟩ := List.getElem?_of_mem hq
  exact h k q hk
theorem va_P.lft {D : va_G} {cl : List vw_C} {a b : va_W} {H : Heap} (h : va_P D cl (a ++ b) H) : va_P D cl a H := va_P.mem.mpr fun q hq => va_P.mem.mp h q (List.mem_append_left _ hq)
theorem va_P.rgt {D : va_G} {cl : List vw_C} {a b : va_W} {H : Heap} (h : va_P D cl (a ++ b) H) : va_P D cl b H := va_P.mem.mpr fun q hq => va_P.mem.mp h q (List.mem_append_right _ hq)
theorem va_D.mk2 {A : Nat → Prop} {a b : va_W} (h1 : va_D A a) (h2 : va_D A b) (h3 : ∀ x ∈ a, ∀ y ∈ b, x.1 ≠ y.1) : va_D A (a ++ b) := va_D.app h1 h2 (fun i j x y hx hy e => h3 x (List.mem_of_getElem? hx) y (List.mem_of_getElem? hy) e)
theorem va_A.out {A : Nat → Prop} {w1 wc w2 : va_W} (hD : va_D A (w1 ++ (wc ++ w2))) {D : va_G} {cl : List vw_C} {H : Heap} (hP : va_P D cl (w1 ++ (wc ++ w2)) H) {q : Nat × va_E} (hq : q ∈ w1 ∨ q ∈ w2) : q.1 < H.size ∧ ¬ va_A wc H.size q.1 := by
  have hat : va_at D cl q H := va_P.mem.mp hP q (by rcases hq with h | h <;> simp [h])
  refine ⟨hat.lt, fun h => ?_⟩
  rcases h with ⟨k, e, hk⟩ | h
  · have hm := List.mem_of_getElem? hk
    rcases hq with h | h
    · exact hD.ne h (List.mem_append_left _ hm) rfl
    · exact hD.rgt.ne hm h rfl
  · have := hat.lt
    omega
theorem x_join {A0 : Nat → Prop} {D : va_G} {cl : List vw_C} {w1 wc wc' w2 : va_W} {H H1 : Heap} (hP : va_P D cl (w1 ++ (wc ++ w2)) H) (hD : va_D A0 (w1 ++ (wc ++ w2))) (hk : ∀ q : Nat, q < H.size → ¬ va_A wc H.size q → H1[q]? = H[q]?) (hF : ∀ q, va_A wc H.size q → A0 q) (hP1 : va_P D cl wc' H1) (hD1 : va_D (va_A wc H.size) wc') : va_P D cl (w1 ++ (wc' ++ w2)) H1 ∧ va_D A0 (w1 ++ (wc' ++ w2)) := by
  have hout : ∀ q : Nat × va_E, q ∈ w1 ∨ q ∈ w2 → q.1 < H.size ∧ ¬ va_A wc H.size q.1 := fun q hq => va_A.out hD hP hq
  have hsep : ∀ q : Nat × va_E, q ∈ w1 ∨ q ∈ w2 → ∀ z ∈ wc', q.1 ≠ z.1 := fun q hq z hz e => by
    obtain ⟨k, hk⟩ := List.getElem?_of_mem hz
    exact (hout q hq).2 (by rw [e]; exact hD1.2 k z hk)
  refine ⟨va_P.mem.mpr fun q hq => ?_, va_D.mk2 hD.lft (va_D.mk2 ⟨hD1.1, fun k q h => hF _ (hD1.2 k q h)⟩ hD.rgt.rgt (fun x hx y hy e => hsep y (Or.inr hy) x hx e.symm)) (fun x hx y hy => ?_)⟩
  · rcases List.mem_append.mp hq with h | h
    · exact (va_P.mem.mp hP q (List.mem_append_left _ h)).kept (hk _ (hout q (Or.inl h)).1 (hout q (Or.inl h)).2)
    · rcases List.mem_append.mp h with h | h
      · exact va_P.mem.mp hP1 q h
      · exact (va_P.mem.mp hP q (List.mem_append_right _ (List.mem_append_right _ h))).kept (hk _ (hout q (Or.inr h)).1 (hout q (Or.inr h)).2)
  · rcases List.mem_append.mp hy with h | h
    · exact hsep x (Or.inl hx) y h
    · exact hD.ne hx (List.mem_append_right _ h)
section XK
variable {p : Program} {l : Launch} {e : Env} {R : Room} {s : State} {m : MethodId} {args : Array Value} {below : List Frame} {meth : Method} {c : Code} {H : Heap} {locs : List Loc} {cells slots : Nat} {Q : State → Prop}
variable {D : va_G} {cy : Nat → ClassId} {w w' w1 w2 wc wc' : va_W} {A : Nat → Prop} {pc : Nat} {ls : Array Slot} {rest st : List Value} {cc bytes : ByteArray} {Ts ws : List Cond} {own : String}
theorem x_iret (hx : p.tables.exec = Jvm.exec) (hb : c.code = cc) (hr : meth.sig.returnType = some .int) (hlocks : meth.locks = false) (hK : va_K D vwCl (xTy cy) s) (hP : va_P D vwCl w' H) (hD : va_D A w') (hS : va_S A s.heap H locs) {r : Int32} (hdg : decode cc pc = .ok (.ireturn, 1)) : W p l e R s m args below meth c H locs 0 0 (MQ below (xQi D cy w' r A) args s 0 0 A) (F0 m pc ls [.int r]) :=
  W.iret (v := r) hx hb hr (fun t ht hW => ⟨⟨r, (), rfl, rfl, by rw [ht]; exact hP, va_K.moved hW.alike hK, hD⟩, hS.F ht⟩) hS.2.2 hdg hlocks
theorem x_zret {ty : FieldType} (hx : p.tables.exec = Jvm.exec) (hb : c.code = cc) (hr : meth.sig.returnType = some ty) (hlocks : meth.locks = false) (hK : va_K D vwCl (xTy cy) s) (hP : va_P D vwCl w' H) (hD : va_D A w') (hS : va_S A s.heap H locs) {r : Int32} (hn : narrow ty (.int r) = .int r) (hdg : decode cc pc = .ok (.ireturn, 1)) : W p l e R s m args below meth c H locs 0 0 (MQ below (xQi D cy w' r A) args s 0 0 A) (F0 m pc ls [.int r]) :=
  W.zret (v := r) hx hb hr hn (fun t ht hW => ⟨⟨r, (), rfl, rfl, by rw [ht]; exact hP, va_K.moved hW.alike hK, hD⟩, hS.F ht⟩) hS.2.2 hdg hlocks
theorem x_lret (hx : p.tables.exec = Jvm.exec) (hb : c.code = cc) (hr : meth.sig.returnType = some .long) (hlocks : meth.locks = false) (hK : va_K D vwCl (xTy cy) s) (hP : va_P D vwCl w' H) (hD : va_D A w') (hS : va_S A s.heap H locs) {r : Int64} (hdg : decode cc pc = .ok (.lreturn, 1)) : W p l e R s m args below meth c H locs 0 0 (MQ below (xQl D cy w' r A) args s 0 0 A) (F0 m pc ls [.long r]) :=
  W.lret (v := r) hx hb hr (fun t ht hW => ⟨⟨r, (), rfl, rfl, by rw [ht]; exact hP, va_K.moved hW.alike hK, hD⟩, hS.F ht⟩) hS.2.2 hdg hlocks
theorem x_vret (hx : p.tables.exec = Jvm.exec) (hb : c.code = cc) (hr : meth.sig.returnType = none) (hlocks : meth.locks = false) (hK : va_K D vwCl (xTy cy) s) (hP : va_P D vwCl w' H) (hD : va_D A w') (hS : va_S A s.heap H locs) (hdg : decode cc pc = .ok (.return_, 1)) : W p l e R s m args below meth c H locs 0 0 (MQ below (xQv D cy w' A) args s 0 0 A) (F0 m pc ls []) :=
  W.vret hx hb hr (fun t ht hW => ⟨⟨(), rfl, trivial, by rw [ht]; exact hP, va_K.moved hW.alike hK, hD⟩, hS.F ht⟩) hS.2.2 hdg hlocks
theorem x_qret {C : String} (hx : p.tables.exec = Jvm.exec) (hb : c.code = cc) (hr : meth.sig.returnType = some (.object C)) (hlocks : meth.locks = false) (hK : va_K D vwCl (xTy cy) s) (hP : va_P D vwCl w' H) (hD : va_D A w') (hS : va_S A s.heap H locs) {r : Option Nat} {v : Value} (hv : v = va_rf r) (hdg : decode cc pc = .ok (.areturn, 1)) : W p l e R s m args below meth c H locs 0 0 (MQ below (xQq D cy w' r A) args s 0 0 A) (F0 m pc ls [v]) := by
  subst hv
  exact W.aret hx hb hr (Or.inl ⟨_, rfl⟩) (by cases r with | none => exact Or.inl rfl | some a => exact Or.inr ⟨a, rfl⟩) (fun t ht hW => ⟨⟨r, (), rfl, rfl, by rw [ht]; exact hP, va_K.moved hW.alike hK, hD⟩, hS.F ht⟩) hS.2.2 hdg hlocks
theorem x_put (hexec : p.tables.exec = Jvm.exec) (hb : c.code = cc) {ref C : String} {T : u_T} {N ci index a : Nat} (hts : ∀ w ∈ Ts, w.before args s = true) (hin : ∀ w ∈ u_ws C T N, w ∈ Ts) (ty0 : Nat → FieldType) (hty : ∀ k, k < N → parseFieldDescriptor (T k).2.2.1 = some (ty0 k)) (hnm : ∀ a, a < N → ∀ b, b < N → a ≠ b → (T a).2.1 ≠ (T b).2.1) (hown : s.vm.findClass own = some m.cls) (hK : va_K D vwCl (xTy cy) s) (hP : va_P D vwCl w H) (hD : va_D A w) (hS0 : va_S A s.heap H locs) (q0 : Nat) {fs : List Value} (he : w[q0]? = some (a, .inr (ci, fs))) (hc : vwCl[ci]? = some (C, T, N)) (k : Nat) (hk : k < N) (hlink : (Cond.fieldLink own index ref (T k).2.1 (T k).2.2.1).before args s = true) (href : (T k).1 = ref) (hfin : (T k).2.2.2 = false) {ty : FieldType} {v : Value} (hd : ty0 k = ty) (hn : narrow ty v = v) (hfit : fits ty v = true) (hl : k < fs.length) (hw' : w.set q0 (a, .inr (ci, fs.set k v)) = w')
    (hdg : decode cc pc = .ok (.putfield index, 3)) (kk : ∀ (H1 : Heap) (locs1 : List Loc), va_P D vwCl w' H1 → va_D A w' → va_S A s.heap H1 locs1 → W p l e R s m args below meth c H1 locs1 cells slots Q (F0 m (pc + 3) ls rest)) : W p l e R s m args below meth c H locs cells slots Q (F0 m pc ls (v :: .ref a :: rest)) := by
  subst hw' hd href
  exact va_put hexec hb hts hin ty0 hty hnm hown hK hP hD hS0 q0 he hc k hk hlink (fun _ h => h) hfin (hty k hk) hn hfit hl hdg kk
theorem x_get (hexec : p.tables.exec = Jvm.exec) (hb : c.code = cc) {ref C : String} {T : u_T} {N ci index a : Nat} (hts : ∀ w ∈ Ts, w.before args s = true) (hin : ∀ w ∈ u_ws C T N, w ∈ Ts) (hown : s.vm.findClass own = some m.cls) (hK : va_K D vwCl (xTy cy) s) (hP : va_P D vwCl w H) (q0 : Nat) {fs : List Value} (he : w[q0]? = some (a, .inr (ci, fs))) (hc : vwCl[ci]? = some (C, T, N)) (k : Nat) (hk : k < N) (hlink : (Cond.fieldLink own index ref (T k).2.1 (T k).2.2.1).before args s = true) (href : (T k).1 = ref) (v : Value) (hv : fs[k]? = some v) (hdg : decode cc pc = .ok (.getfield index, 3))
    (kk : W p l e R s m args below meth c H locs cells slots Q (F0 m (pc + 3) ls (v :: rest))) : W p l e R s m args below meth c H locs cells slots Q (F0 m pc ls (.ref a :: rest)) := by
  subst href
  exact va_get hexec hb hts hin hown hK hP q0 he hc k hk hlink (fun _ h => h) hv hdg kk
theorem x_iast (hexec : p.tables.exec = Jvm.exec) (hb : c.code = cc) (hK : va_K D vwCl (xTy cy) s) (hP : va_P D vwCl w H) (hD : va_D A w) (hS : va_S A s.heap H locs) (q0 : Nat) {n a : Nat} {f g : Nat → Int32} (ha : w[q0]? = some (a, .inl (cy 1, n, .inl f))) {i : Int32} {x : Int32} (hin : vp_in i n) (hg : g = upd f i.toNatClampNeg x) (hw' : w.set q0 (a, .inl (cy 1, n, .inl g)) = w') (hdg : decode cc pc = .ok (.iastore, 1))
    (kk : ∀ (H1 : Heap) (locs1 : List Loc), va_P D vwCl w' H1 → va_D A w' → va_S A s.heap H1 locs1 → W p l e R s m args below meth c H1 locs1 cells slots Q (F0 m (pc + 1) ls rest)) : W p l e R s m args below meth c H locs cells slots Q (F0 m pc ls (.int x :: .int i :: .ref a :: rest)) := by
  subst hw' hg
  exact va_iast hexec hb hK hP hD hS q0 1 ha rfl hin hdg kk
theorem x_last (hexec : p.tables.exec = Jvm.exec) (hb : c.code = cc) (hK : va_K D vwCl (xTy cy) s) (hP : va_P D vwCl w H) (hD : va_D A w) (hS : va_S A s.heap H locs) (q0 : Nat) {n a : Nat} {f g : Nat → Int64} (ha : w[q0]? = some (a, .inl (cy 2, n, .inr (.inl f)))) {i : Int32} {x : Int64} (hin : vp_in i n) (hg : g = vp_updL f i.toNatClampNeg x) (hw' : w.set q0 (a, .inl (cy 2, n, .inr (.inl g))) = w') (hdg : decode cc pc = .ok (.lastore, 1))
    (kk : ∀ (H1 : Heap) (locs1 : List Loc), va_P D vwCl w' H1 → va_D A w' → va_S A s.heap H1 locs1 → W p l e R s m args below meth c H1 locs1 cells slots Q (F0 m (pc + 1) ls rest)) : W p l e R s m args below meth c H locs cells slots Q (F0 m pc ls (.long x :: .int i :: .ref a :: rest)) := by
  subst hw' hg
  exact va_last hexec hb hK hP hD hS q0 2 ha rfl hin hdg kk
theorem x_cast (hexec : p.tables.exec = Jvm.exec) (hb : c.code = cc) (hK : va_K D vwCl (xTy cy) s) (hP : va_P D vwCl w H) (hD : va_D A w) (hS : va_S A s.heap H locs) (q0 : Nat) {n a : Nat} {f g : Nat → Int32} (ha : w[q0]? = some (a, .inl (cy 0, n, .inl f))) {i : Int32} {x : Int32} (hin : vp_in i n) (hg : g = upd f i.toNatClampNeg (vp_nar .char x)) (hw' : w.set q0 (a, .inl (cy 0, n, .inl g)) = w') (hdg : decode cc pc = .ok (.castore, 1))
    (kk : ∀ (H1 : Heap) (locs1 : List Loc), va_P D vwCl w' H1 → va_D A w' → va_S A s.heap H1 locs1 → W p l e R s m args below meth c H1 locs1 cells slots Q (F0 m (pc + 1) ls rest)) : W p l e R s m args below meth c H locs cells slots Q (F0 m pc ls (.int x :: .int i :: .ref a :: rest)) := by
  subst hw' hg
  exact va_cast hexec hb hK hP hD hS q0 0 ha rfl hin hdg kk
theorem x_topi {x y : Int32} (hy : y = x) (k : W p l e R s m args below meth c H locs cells slots Q (F0 m pc ls (.int y :: rest))) : W p l e R s m args below meth c H locs cells slots Q (F0 m pc ls (.int x :: rest)) := hy ▸ k
theorem x_topl {x y : Int64} (hy : y = x) (k : W p l e R s m args below meth c H locs cells slots Q (F0 m pc ls (.long y :: rest))) : W p l e R s m args below meth c H locs cells slots Q (F0 m pc ls (.long x :: rest)) := hy ▸ k
theorem x_blind {av : List Value} {hz : Nat} : FrameBlind (va_Pc av (xPre D cy w hz)) := fun a U g mk q => ⟨q.1, q.2.1, q.2.2.1, va_K.moved (u := U) (U := U.calling g mk a) (Vm.Alike.refl U.vm) q.2.2.2.1, q.2.2.2.2.1, nb_same (u := U) (U := U.calling g mk a) rfl rfl q.2.2.2.2.2⟩
theorem x_preU {av : List Value} (hP : va_P D vwCl wc H) (hK : va_K D vwCl (xTy cy) s) (hD : va_D A wc) (hN : nb_ok A s) (hS : va_S A s.heap H locs) (hF : ∀ q, va_A wc H.size q → A q) : ∀ U : State, U.heap = H → s.WarmedH U.vm → va_Pc av (xPre D cy wc H.size) av.toArray U := fun U hU hW => ⟨rfl, by rw [hU], by rw [hU]; exact hP, va_K.moved hW.alike hK, ⟨hD.1, fun _ _ _ => trivial⟩, nb_pass hW hU hS hF hN⟩
variable {y : MethodName} {maxL nL n index ci q0 : Nat} {ret : Option FieldType} {rm : Room} {C host : String} {b : Addr} {As : List Value} {q : vw_C} {fs : List Value} {Qc : Array Value → State → Outcome → State → Prop} {free : Addr → Prop} {lv : List (Nat × Value)}
theorem x_free (hD : va_D A (w1 ++ (wc ++ w2))) (hS : va_S A s.heap H locs) (hA : ∀ q, s.heap.size ≤ q → A q) : ∀ q, va_A wc H.size q → A q := by
  intro q h
  rcases h with ⟨k, e, hk⟩ | h
  · obtain ⟨i, hi⟩ := List.getElem?_of_mem (List.mem_append_right w1 (List.mem_append_left w2 (List.mem_of_getElem? hk)))
    exact hD.2 i (q, e) hi
  · exact hA q (Nat.le_trans hS.1 h)
theorem x_runV (S : CallFix p m c cc nL s args Ts own) (hM : Met l y ws rm (va_Pc (.ref b :: As) (xPre D cy wc H.size)) Qc 0 0 free) (cw : CallW R s args own C index y bytes maxL ret ws rm 0 0 n) (hP : va_P D vwCl wc H) (hK : va_K D vwCl (xTy cy) s) (hD : va_D A wc) (hN : nb_ok A s) (hS : va_S A s.heap H locs) (hF : ∀ q, va_A wc H.size q → A q) (he : wc[q0]? = some (b, .inr (ci, fs))) (hc : vwCl[ci]? = some q) (hC : q.1 = C) (hn : As.length = n) (hl : lv_has ls nL lv) (hst : st = As.reverse ++ .ref b :: rest) (hW : (rest.map fun v => v.category).sum ≤ 8) (hdg : decode cc pc = .ok (.invokevirtual index, 3)) (hf : cells ≤ R.cells ∧ slots ≤ R.slots) :
    va_Run p l e R s m args below meth c H locs cells slots 0 0 (F0 m pc ls st) rest (Qc (Value.ref b :: As).toArray) free :=
  va_runV S hM cw ⟨x_blind, hC ▸ va_recv hK hP hc he, x_preU hP hK hD hN hS hF⟩ rfl hn hl.1 hst (lv_room hW) hdg hf
theorem x_goi {r : Int32} (hrun : va_Run p l e R s m args below meth c H locs cells slots 0 0 (F0 m pc ls st) rest (xQi D cy wc' r (va_A wc H.size) As.toArray) (va_A wc H.size)) (hw : w1 ++ (wc ++ w2) = w) (hw' : w1 ++ (wc' ++ w2) = w') (hP : va_P D vwCl w H) (hD : va_D A w) (hS : va_S A s.heap H locs) (hA : ∀ q, s.heap.size ≤ q → A q)
    (kk : ∀ (H1 : Heap) (locs1 : List Loc), va_P D vwCl w' H1 → va_D A w' → va_S A s.heap H1 locs1 → W p l e R s m args below meth c H1 locs1 cells slots Q (F0 m (pc + 3) ls (.int r :: rest))) : W p l e R s m args below meth c H locs cells slots Q (F0 m pc ls st) := by
  subst hw hw'
  have hF := x_free hD hS hA
  refine va_calli hrun hS (fun q _ h => hF q h) hF (fun r1 u t H1 locs1 ht hvm hw hB hz1 hk1 hS1 => ?_)
  cases hw
  obtain ⟨hP1, hK1, hD1⟩ := hB
  rw [ht] at hP1
  obtain ⟨hP2, hD2⟩ := x_join hP hD hk1 hF hP1 hD1
  exact kk H1 locs1 hP2 hD2 hS1
theorem x_callVi {r : Int32} (S : CallFix p m c cc nL s args Ts own) (hM : xMi l D cy y ws rm (.ref b :: As) wc wc' r) (cw : CallW R s args own C index y bytes maxL ret ws rm 0 0 n) (hw : w1 ++ (wc ++ w2) = w) (hw' : w1 ++ (wc' ++ w2) = w') (hP : va_P D vwCl w H) (hK : va_K D vwCl (xTy cy) s) (hD : va_D A w) (hN : nb_ok A s) (hS : va_S A s.heap H locs) (hA : ∀ q, s.heap.size ≤ q → A q) (he : wc[q0]? = some (b, .inr (ci, fs))) (hc : vwCl[ci]? = some q) (hC : q.1 = C) (hn : As.length = n) (hl : lv_has ls nL lv) (hst : st = As.reverse ++ .ref b :: rest) (hW : (rest.map fun v => v.category).sum ≤ 8) (hdg : decode cc pc = .ok (.invokevirtual index, 3)) (hf : cells ≤ R.cells ∧ slots ≤ R.slots)
    (kk : ∀ (H1 : Heap) (locs1 : List Loc), va_P D vwCl w' H1 → va_D A w' → va_S A s.heap H1 locs1 → W p l e R s m args below meth c H1 locs1 cells slots Q (F0 m (pc + 3) ls (.int r :: rest))) : W p l e R s m args below meth c H locs cells slots Q (F0 m pc ls st) :=
  x_goi (As := .ref b :: As) (x_runV S (hM H.size) cw (hw ▸ hP).rgt.lft hK (hw ▸ hD).rgt.lft hN hS (x_free (hw ▸ hD) hS hA) he hc hC hn hl hst hW hdg hf) hw hw' hP hD hS hA kk
theorem x_callSi {r : Int32} (S : CallFix p m c cc nL s args Ts own) (hM : xMi l D cy y ws rm As wc wc' r) (cw : CallB R s args own index y bytes maxL ret ws rm 0 0 n ∧ (Cond.static y).before args s = true) (hw : w1 ++ (wc ++ w2) = w) (hw' : w1 ++ (wc' ++ w2) = w') (hP : va_P D vwCl w H) (hK : va_K D vwCl (xTy cy) s) (hD : va_D A w) (hN : nb_ok A s) (hS : va_S A s.heap H locs) (hA : ∀ q, s.heap.size ≤ q → A q) (hn : As.length = n) (hl : lv_has ls nL lv) (hst : st = As.reverse ++ rest) (hW : (rest.map fun v => v.category).sum ≤ 8) (hdg : decode cc pc = .ok (.invokestatic index, 3)) (hf : cells ≤ R.cells ∧ slots ≤ R.slots)
    (kk : ∀ (H1 : Heap) (locs1 : List Loc), va_P D vwCl w' H1 → va_D A w' → va_S A s.heap H1 locs1 → W p l e R s m args below meth c H1 locs1 cells slots Q (F0 m (pc + 3) ls (.int r :: rest))) : W p l e R s m args below meth c H locs cells slots Q (F0 m pc ls st) :=
  x_goi (As := As) (va_runS S (hM H.size) cw ⟨x_blind, x_preU (hw ▸ hP).rgt.lft hK (hw ▸ hD).rgt.lft hN hS (x_free (hw ▸ hD) hS hA)⟩ rfl hn hl.1 hst (lv_room hW) hdg hf) hw hw' hP hD hS hA kk
theorem x_callNi {r : Int32} (S : CallFix p m c cc nL s args Ts own) (hM : xMi l D cy y ws rm As wc wc' r) (cw : va_CN R s args own index y host bytes maxL ret ws rm 0 0 n ∧ (Cond.static y).before args s = true ∧ True) (hw : w1 ++ (wc ++ w2) = w) (hw' : w1 ++ (wc' ++ w2) = w') (hP : va_P D vwCl w H) (hK : va_K D vwCl (xTy cy) s) (hD : va_D A w) (hN : nb_ok A s) (hS : va_S A s.heap H locs) (hA : ∀ q, s.heap.size ≤ q → A q) (hn : As.length = n) (hl : lv_has ls nL lv) (hst : st = As.reverse ++ rest) (hW : (rest.map fun v => v.category).sum ≤ 8) (hdg : decode cc pc = .ok (.invokestatic index, 3)) (hf : cells ≤ R.cells ∧ slots ≤ R.slots)
    (kk : ∀ (H1 : Heap) (locs1 : List Loc), va_P D vwCl w' H1 → va_D A w' → va_S A s.heap H1 locs1 → W p l e R s m args below meth c H1 locs1 cells slots Q (F0 m (pc + 3) ls (.int r :: rest))) : W p l e R s m args below meth c H locs cells slots Q (F0 m pc ls st) :=
  x_goi (As := As) (va_runSN S (hM H.size) cw ⟨x_blind, x_preU (hw ▸ hP).rgt.lft hK (hw ▸ hD).rgt.lft hN hS (x_free (hw ▸ hD) hS hA)⟩ rfl hn hl.1 hst (lv_room hW) hdg hf) hw hw' hP hD hS hA kk
theorem x_gol {r : Int64} (hrun : va_Run p l e R s m args below meth c H locs cells slots 0 0 (F0 m pc ls st) rest (xQl D cy wc' r (va_A wc H.size) As.toArray) (va_A wc H.size)) (hw : w1 ++ (wc ++ w2) = w) (hw' : w1 ++ (wc' ++ w2) = w') (hP : va_P D vwCl w H) (hD : va_D A w) (hS : va_S A s.heap H locs) (hA : ∀ q, s.heap.size ≤ q → A q)
    (kk : ∀ (H1 : Heap) (locs1 : List Loc), va_P D vwCl w' H1 → va_D A w' → va_S A s.heap H1 locs1 → W p l e R s m args below meth c H1 locs1 cells slots Q (F0 m (pc + 3) ls (.long r :: rest))) : W p l e R s m args below meth c H locs cells slots Q (F0 m pc ls st) := by
  subst hw hw'
  have hF := x_free hD hS hA
  refine va_calll hrun hS (fun q _ h => hF q h) hF (fun r1 u t H1 locs1 ht hvm hw hB hz1 hk1 hS1 => ?_)
  cases hw
  obtain ⟨hP1, hK1, hD1⟩ := hB
  rw [ht] at hP1
  obtain ⟨hP2, hD2⟩ := x_join hP hD hk1 hF hP1 hD1
  exact kk H1 locs1 hP2 hD2 hS1
theorem x_callVl {r : Int64} (S : CallFix p m c cc nL s args Ts own) (hM : xMl l D cy y ws rm (.ref b :: As) wc wc' r) (cw : CallW R s args own C index y bytes maxL ret ws rm 0 0 n) (hw : w1 ++ (wc ++ w2) = w) (hw' : w1 ++ (wc' ++ w2) = w') (hP : va_P D vwCl w H) (hK : va_K D vwCl (xTy cy) s) (hD : va_D A w) (hN : nb_ok A s) (hS : va_S A s.heap H locs) (hA : ∀ q, s.heap.size ≤ q → A q) (he : wc[q0]? = some (b, .inr (ci, fs))) (hc : vwCl[ci]? = some q) (hC : q.1 = C) (hn : As.length = n) (hl : lv_has ls nL lv) (hst : st = As.reverse ++ .ref b :: rest) (hW : (rest.map fun v => v.category).sum ≤ 8) (hdg : decode cc pc = .ok (.invokevirtual index, 3)) (hf : cells ≤ R.cells ∧ slots ≤ R.slots)
    (kk : ∀ (H1 : Heap) (locs1 : List Loc), va_P D vwCl w' H1 → va_D A w' → va_S A s.heap H1 locs1 → W p l e R s m args below meth c H1 locs1 cells slots Q (F0 m (pc + 3) ls (.long r :: rest))) : W p l e R s m args below meth c H locs cells slots Q (F0 m pc ls st) :=
  x_gol (As := .ref b :: As) (x_runV S (hM H.size) cw (hw ▸ hP).rgt.lft hK (hw ▸ hD).rgt.lft hN hS (x_free (hw ▸ hD) hS hA) he hc hC hn hl hst hW hdg hf) hw hw' hP hD hS hA kk
theorem x_callSl {r : Int64} (S : CallFix p m c cc nL s args Ts own) (hM : xMl l D cy y ws rm As wc wc' r) (cw : CallB R s args own index y bytes maxL ret ws rm 0 0 n ∧ (Cond.static y).before args s = true) (hw : w1 ++ (wc ++ w2) = w) (hw' : w1 ++ (wc' ++ w2) = w') (hP : va_P D vwCl w H) (hK : va_K D vwCl (xTy cy) s) (hD : va_D A w) (hN : nb_ok A s) (hS : va_S A s.heap H locs) (hA : ∀ q, s.heap.size ≤ q → A q) (hn : As.length = n) (hl : lv_has ls nL lv) (hst : st = As.reverse ++ rest) (hW : (rest.map fun v => v.category).sum ≤ 8) (hdg : decode cc pc = .ok (.invokestatic index, 3)) (hf : cells ≤ R.cells ∧ slots ≤ R.slots)
    (kk : ∀ (H1 : Heap) (locs1 : List Loc), va_P D vwCl w' H1 → va_D A w' → va_S A s.heap H1 locs1 → W p l e R s m args below meth c H1 locs1 cells slots Q (F0 m (pc + 3) ls (.long r :: rest))) : W p l e R s m args below meth c H locs cells slots Q (F0 m pc ls st) :=
  x_gol (As := As) (va_runS S (hM H.size) cw ⟨x_blind, x_preU (hw ▸ hP).rgt.lft hK (hw ▸ hD).rgt.lft hN hS (x_free (hw ▸ hD) hS hA)⟩ rfl hn hl.1 hst (lv_room hW) hdg hf) hw hw' hP hD hS hA kk
theorem x_callNl {r : Int64} (S : CallFix p m c cc nL s args Ts own) (hM : xMl l D cy y ws rm As wc wc' r) (cw : va_CN R s args own index y host bytes maxL ret ws rm 0 0 n ∧ (Cond.static y).before args s = true ∧ True) (hw : w1 ++ (wc ++ w2) = w) (hw' : w1 ++ (wc' ++ w2) = w') (hP : va_P D vwCl w H) (hK : va_K D vwCl (xTy cy) s) (hD : va_D A w) (hN : nb_ok A s) (hS : va_S A s.heap H locs) (hA : ∀ q, s.heap.size ≤ q → A q) (hn : As.length = n) (hl : lv_has ls nL lv) (hst : st = As.reverse ++ rest) (hW : (rest.map fun v => v.category).sum ≤ 8) (hdg : decode cc pc = .ok (.invokestatic index, 3)) (hf : cells ≤ R.cells ∧ slots ≤ R.slots)
    (kk : ∀ (H1 : Heap) (locs1 : List Loc), va_P D vwCl w' H1 → va_D A w' → va_S A s.heap H1 locs1 → W p l e R s m args below meth c H1 locs1 cells slots Q (F0 m (pc + 3) ls (.long r :: rest))) : W p l e R s m args below meth c H locs cells slots Q (F0 m pc ls st) :=
  x_gol (As := As) (va_runSN S (hM H.size) cw ⟨x_blind, x_preU (hw ▸ hP).rgt.lft hK (hw ▸ hD).rgt.lft hN hS (x_free (hw ▸ hD) hS hA)⟩ rfl hn hl.1 hst (lv_room hW) hdg hf) hw hw' hP hD hS hA kk
theorem x_gov  (hrun : va_Run p l e R s m args below meth c H locs cells slots 0 0 (F0 m pc ls st) rest (xQv D cy wc' (va_A wc H.size) As.toArray) (va_A wc H.size)) (hw : w1 ++ (wc ++ w2) = w) (hw' : w1 ++ (wc' ++ w2) = w') (hP : va_P D vwCl w H) (hD : va_D A w) (hS : va_S A s.heap H locs) (hA : ∀ q, s.heap.size ≤ q → A q)
    (kk : ∀ (H1 : Heap) (locs1 : List Loc), va_P D vwCl w' H1 → va_D A w' → va_S A s.heap H1 locs1 → W p l e R s m args below meth c H1 locs1 cells slots Q (F0 m (pc + 3) ls rest)) : W p l e R s m args below meth c H locs cells slots Q (F0 m pc ls st) := by
  subst hw hw'
  have hF := x_free hD hS hA
  refine va_callv hrun hS (fun q _ h => hF q h) hF (fun u t H1 locs1 ht hvm hw hB hz1 hk1 hS1 => ?_)
  skip
  obtain ⟨hP1, hK1, hD1⟩ := hB
  rw [ht] at hP1
  obtain ⟨hP2, hD2⟩ := x_join hP hD hk1 hF hP1 hD1
  exact kk H1 locs1 hP2 hD2 hS1
theorem x_callVv  (S : CallFix p m c cc nL s args Ts own) (hM : xMv l D cy y ws rm (.ref b :: As) wc wc') (cw : CallW R s args own C index y bytes maxL ret ws rm 0 0 n) (hw : w1 ++ (wc ++ w2) = w) (hw' : w1 ++ (wc' ++ w2) = w') (hP : va_P D vwCl w H) (hK : va_K D vwCl (xTy cy) s) (hD : va_D A w) (hN : nb_ok A s) (hS : va_S A s.heap H locs) (hA : ∀ q, s.heap.size ≤ q → A q) (he : wc[q0]? = some (b, .inr (ci, fs))) (hc : vwCl[ci]? = some q) (hC : q.1 = C) (hn : As.length = n) (hl : lv_has ls nL lv) (hst : st = As.reverse ++ .ref b :: rest) (hW : (rest.map fun v => v.category).sum ≤ 8) (hdg : decode cc pc = .ok (.invokevirtual index, 3)) (hf : cells ≤ R.cells ∧ slots ≤ R.slots)
    (kk : ∀ (H1 : Heap) (locs1 : List Loc), va_P D vwCl w' H1 → va_D A w' → va_S A s.heap H1 locs1 → W p l e R s m args below meth c H1 locs1 cells slots Q (F0 m (pc + 3) ls rest)) : W p l e R s m args below meth c H locs cells slots Q (F0 m pc ls st) :=
  x_gov (As := .ref b :: As) (x_runV S (hM H.size) cw (hw ▸ hP).rgt.lft hK (hw ▸ hD).rgt.lft hN hS (x_free (hw ▸ hD) hS hA) he hc hC hn hl hst hW hdg hf) hw hw' hP hD hS hA kk
theorem x_callSv  (S : CallFix p m c cc nL s args Ts own) (hM : xMv l D cy y ws rm As wc wc') (cw : CallB R s args own index y bytes maxL ret ws rm 0 0 n ∧ (Cond.static y).before args s = true) (hw : w1 ++ (wc ++ w2) = w) (hw' : w1 ++ (wc' ++ w2) = w') (hP : va_P D vwCl w H) (hK : va_K D vwCl (xTy cy) s) (hD : va_D A w) (hN : nb_ok A s) (hS : va_S A s.heap H locs) (hA : ∀ q, s.heap.size ≤ q → A q) (hn : As.length = n) (hl : lv_has ls nL lv) (hst : st = As.reverse ++ rest) (hW : (rest.map fun v => v.category).sum ≤ 8) (hdg : decode cc pc = .ok (.invokestatic index, 3)) (hf : cells ≤ R.cells ∧ slots ≤ R.slots)
    (kk : ∀ (H1 : Heap) (locs1 : List Loc), va_P D vwCl w' H1 → va_D A w' → va_S A s.heap H1 locs1 → W p l e R s m args below meth c H1 locs1 cells slots Q (F0 m (pc + 3) ls rest)) : W p l e R s m args below meth c H locs cells slots Q (F0 m pc ls st) :=
  x_gov (As := As) (va_runS S (hM H.size) cw ⟨x_blind, x_preU (hw ▸ hP).rgt.lft hK (hw ▸ hD).rgt.lft hN hS (x_free (hw ▸ hD) hS hA)⟩ rfl hn hl.1 hst (lv_room hW) hdg hf) hw hw' hP hD hS hA kk
theorem x_callNv  (S : CallFix p m c cc nL s args Ts own) (hM : xMv l D cy y ws rm As wc wc') (cw : va_CN R s args own index y host bytes maxL ret ws rm 0 0 n ∧ (Cond.static y).before args s = true ∧ True) (hw : w1 ++ (wc ++ w2) = w) (hw' : w1 ++ (wc' ++ w2) = w') (hP : va_P D vwCl w H) (hK : va_K D vwCl (xTy cy) s) (hD : va_D A w) (hN : nb_ok A s) (hS : va_S A s.heap H locs) (hA : ∀ q, s.heap.size ≤ q → A q) (hn : As.length = n) (hl : lv_has ls nL lv) (hst : st = As.reverse ++ rest) (hW : (rest.map fun v => v.category).sum ≤ 8) (hdg : decode cc pc = .ok (.invokestatic index, 3)) (hf : cells ≤ R.cells ∧ slots ≤ R.slots)
    (kk : ∀ (H1 : Heap) (locs1 : List Loc), va_P D vwCl w' H1 → va_D A w' → va_S A s.heap H1 locs1 → W p l e R s m args below meth c H1 locs1 cells slots Q (F0 m (pc + 3) ls rest)) : W p l e R s m args below meth c H locs cells slots Q (F0 m pc ls st) :=
  x_gov (As := As) (va_runSN S (hM H.size) cw ⟨x_blind, x_preU (hw ▸ hP).rgt.lft hK (hw ▸ hD).rgt.lft hN hS (x_free (hw ▸ hD) hS hA)⟩ rfl hn hl.1 hst (lv_room hW) hdg hf) hw hw' hP hD hS hA kk
theorem x_goq {r : Option Nat} (hrun : va_Run p l e R s m args below meth c H locs cells slots 0 0 (F0 m pc ls st) rest (xQq D cy wc' r (va_A wc H.size) As.toArray) (va_A wc H.size)) (hw : w1 ++ (wc ++ w2) = w) (hw' : w1 ++ (wc' ++ w2) = w') (hP : va_P D vwCl w H) (hD : va_D A w) (hS : va_S A s.heap H locs) (hA : ∀ q, s.heap.size ≤ q → A q)
    (kk : ∀ (H1 : Heap) (locs1 : List Loc), va_P D vwCl w' H1 → va_D A w' → va_S A s.heap H1 locs1 → W p l e R s m args below meth c H1 locs1 cells slots Q (F0 m (pc + 3) ls (va_rf r :: rest))) : W p l e R s m args below meth c H locs cells slots Q (F0 m pc ls st) := by
  subst hw hw'
  have hF := x_free hD hS hA
  refine va_callq hrun hS (fun q _ h => hF q h) hF (fun r1 u t H1 locs1 ht hvm hw hB hz1 hk1 hS1 => ?_)
  cases hw
  obtain ⟨hP1, hK1, hD1⟩ := hB
  rw [ht] at hP1
  obtain ⟨hP2, hD2⟩ := x_join hP hD hk1 hF hP1 hD1
  exact kk H1 locs1 hP2 hD2 hS1
theorem x_callVq {r : Option Nat} (S : CallFix p m c cc nL s args Ts own) (hM : xMq l D cy y ws rm (.ref b :: As) wc wc' r) (cw : CallW R s args own C index y bytes maxL ret ws rm 0 0 n) (hw : w1 ++ (wc ++ w2) = w) (hw' : w1 ++ (wc' ++ w2) = w') (hP : va_P D vwCl w H) (hK : va_K D vwCl (xTy cy) s) (hD : va_D A w) (hN : nb_ok A s) (hS : va_S A s.heap H locs) (hA : ∀ q, s.heap.size ≤ q → A q) (he : wc[q0]? = some (b, .inr (ci, fs))) (hc : vwCl[ci]? = some q) (hC : q.1 = C) (hn : As.length = n) (hl : lv_has ls nL lv) (hst : st = As.reverse ++ .ref b :: rest) (hW : (rest.map fun v => v.category).sum ≤ 8) (hdg : decode cc pc = .ok (.invokevirtual index, 3)) (hf : cells ≤ R.cells ∧ slots ≤ R.slots)
    (kk : ∀ (H1 : Heap) (locs1 : List Loc), va_P D vwCl w' H1 → va_D A w' → va_S A s.heap H1 locs1 → W p l e R s m args below meth c H1 locs1 cells slots Q (F0 m (pc + 3) ls (va_rf r :: rest))) : W p l e R s m args below meth c H locs cells slots Q (F0 m pc ls st) :=
  x_goq (As := .ref b :: As) (x_runV S (hM H.size) cw (hw ▸ hP).rgt.lft hK (hw ▸ hD).rgt.lft hN hS (x_free (hw ▸ hD) hS hA) he hc hC hn hl hst hW hdg hf) hw hw' hP hD hS hA kk
theorem x_callSq {r : Option Nat} (S : CallFix p m c cc nL s args Ts own) (hM : xMq l D cy y ws rm As wc wc' r) (cw : CallB R s args own index y bytes maxL ret ws rm 0 0 n ∧ (Cond.static y).before args s = true) (hw : w1 ++ (wc ++ w2) = w) (hw' : w1 ++ (wc' ++ w2) = w') (hP : va_P D vwCl w H) (hK : va_K D vwCl (xTy cy) s) (hD : va_D A w) (hN : nb_ok A s) (hS : va_S A s.heap H locs) (hA : ∀ q, s.heap.size ≤ q → A q) (hn : As.length = n) (hl : lv_has ls nL lv) (hst : st = As.reverse ++ rest) (hW : (rest.map fun v => v.category).sum ≤ 8) (hdg : decode cc pc = .ok (.invokestatic index, 3)) (hf : cells ≤ R.cells ∧ slots ≤ R.slots)
    (kk : ∀ (H1 : Heap) (locs1 : List Loc), va_P D vwCl w' H1 → va_D A w' → va_S A s.heap H1 locs1 → W p l e R s m args below meth c H1 locs1 cells slots Q (F0 m (pc + 3) ls (va_rf r :: rest))) : W p l e R s m args below meth c H locs cells slots Q (F0 m pc ls st) :=
  x_goq (As := As) (va_runS S (hM H.size) cw ⟨x_blind, x_preU (hw ▸ hP).rgt.lft hK (hw ▸ hD).rgt.lft hN hS (x_free (hw ▸ hD) hS hA)⟩ rfl hn hl.1 hst (lv_room hW) hdg hf) hw hw' hP hD hS hA kk
theorem x_callNq {r : Option Nat} (S : CallFix p m c cc nL s args Ts own) (hM : xMq l D cy y ws rm As wc wc' r) (cw : va_CN R s args own index y host bytes maxL ret ws rm 0 0 n ∧ (Cond.static y).before args s = true ∧ True) (hw : w1 ++ (wc ++ w2) = w) (hw' : w1 ++ (wc' ++ w2) = w') (hP : va_P D vwCl w H) (hK : va_K D vwCl (xTy cy) s) (hD : va_D A w) (hN : nb_ok A s) (hS : va_S A s.heap H locs) (hA : ∀ q, s.heap.size ≤ q → A q) (hn : As.length = n) (hl : lv_has ls nL lv) (hst : st = As.reverse ++ rest) (hW : (rest.map fun v => v.category).sum ≤ 8) (hdg : decode cc pc = .ok (.invokestatic index, 3)) (hf : cells ≤ R.cells ∧ slots ≤ R.slots)
    (kk : ∀ (H1 : Heap) (locs1 : List Loc), va_P D vwCl w' H1 → va_D A w' → va_S A s.heap H1 locs1 → W p l e R s m args below meth c H1 locs1 cells slots Q (F0 m (pc + 3) ls (va_rf r :: rest))) : W p l e R s m args below meth c H locs cells slots Q (F0 m pc ls st) :=
  x_goq (As := As) (va_runSN S (hM H.size) cw ⟨x_blind, x_preU (hw ▸ hP).rgt.lft hK (hw ▸ hD).rgt.lft hN hS (x_free (hw ▸ hD) hS hA)⟩ rfl hn hl.1 hst (lv_room hW) hdg hf) hw hw' hP hD hS hA kk
end XK
def lt_ {α β : Type} (e : α) (k : α → Option β) : Option β := k e
theorem lt_el {α β : Type} {e : α} {k : α → Option β} {r : Option β} (h : lt_ e k = r) : ∃ x, x = e ∧ k x = r := ⟨e, rfl, h⟩
def ckI {β : Type} (i : Int32) (n : Nat) (k : Option β) : Option β := if i < 0 ∨ n ≤ i.toNatClampNeg then none else k
theorem ckI_el {β : Type} {i : Int32} {n : Nat} {k : Option β} {r : β} (h : ckI i n k = some r) : vp_in i n ∧ k = some r := by
  unfold ckI at h
  by_cases c : i < 0 ∨ n ≤ i.toNatClampNeg
  · rw [if_pos c] at h; cases h
  · rw [if_neg c] at h; exact ⟨c, h⟩
def ckP {β : Type} (b : Prop) [Decidable b] (k : Option β) : Option β := if b then k else none
theorem ckP_el {β : Type} {b : Prop} [Decidable b] {k : Option β} {r : β} (h : ckP b k = some r) : b ∧ k = some r := by
  unfold ckP at h
  by_cases c : b
  · rw [if_pos c] at h; exact ⟨c, h⟩
  · rw [if_neg c] at h; cases h
theorem x_t {α : Sort _} {c : Prop} [Decidable c] {a b r : α} (h : c) (hf : (if c then a else b) = r) : a = r := by rw [if_pos h] at hf; exact hf
theorem x_f {α : Sort _} {c : Prop} [Decidable c] {a b r : α} (h : ¬ c) (hf : (if c then a else b) = r) : b = r := by rw [if_neg h] at hf; exact hf
def bd0 { β : Type} (o : Option (Unit)) (k : Option β) : Option β := match o with | none => none | some q => k 
theorem bd0_el { β : Type} {o : Option (Unit)} {k : Option β} {r : β} (h : bd0 o k = some r) : o = some () ∧ k  = some r := by
  cases o with
  | none => cases h
  | some q => exact ⟨rfl, h⟩
theorem bd0_s { β : Type} {k : Option β}  : bd0 (some ()) k = k  := rfl
def bs0 {ρ  : Type} (o : Option (ρ ⊕ (Unit))) (k : Option ρ) : Option ρ := match o with | none => none | some (.inl r) => some r | some (.inr q) => k 
theorem bs0_el {ρ  : Type} {o : Option (ρ ⊕ (Unit))} {k : Option ρ} {r : ρ} (h : bs0 o k = some r) : ∃ z, o = some z ∧ (∀ r', z = .inl r' → r' = r) ∧ (∀ (_ : Unit), z = .inr () → k  = some r) := by
  cases o with
  | none => cases h
  | some z =>
    cases z with
    | inl r0 => exact ⟨_, rfl, fun r' e => (by cases e; exact Option.some.inj h), fun _ e => by cases e⟩
    | inr q => exact ⟨_, rfl, fun r' e => (by cases e), fun _ e => by cases e; exact h⟩
def bd1 {α1 β : Type} (o : Option (α1)) (k : α1 → Option β) : Option β := match o with | none => none | some q => k q
theorem bd1_el {α1 β : Type} {o : Option (α1)} {k : α1 → Option β} {r : β} (h : bd1 o k = some r) : ∃ v1, o = some v1 ∧ k v1 = some r := by
  cases o with
  | none => cases h
  | some q => exact ⟨_, rfl, h⟩
theorem bd1_s {α1 β : Type} {k : α1 → Option β} {v1 : α1} : bd1 (some v1) k = k v1 := rfl
def bs1 {ρ α1 : Type} (o : Option (ρ ⊕ (α1))) (k : α1 → Option ρ) : Option ρ := match o with | none => none | some (.inl r) => some r | some (.inr q) => k q
theorem bs1_el {ρ α1 : Type} {o : Option (ρ ⊕ (α1))} {k : α1 → Option ρ} {r : ρ} (h : bs1 o k = some r) : ∃ z, o = some z ∧ (∀ r', z = .inl r' → r' = r) ∧ (∀ v1, z = .inr v1 → k v1 = some r) := by
  cases o with
  | none => cases h
  | some z =>
    cases z with
    | inl r0 => exact ⟨_, rfl, fun r' e => (by cases e; exact Option.some.inj h), fun _ e => by cases e⟩
    | inr q => exact ⟨_, rfl, fun r' e => (by cases e), fun _ e => by cases e; exact h⟩
def bd2 {α1 α2 β : Type} (o : Option (α1 × α2)) (k : α1 → α2 → Option β) : Option β := match o with | none => none | some q => k q.1 q.2
theorem bd2_el {α1 α2 β : Type} {o : Option (α1 × α2)} {k : α1 → α2 → Option β} {r : β} (h : bd2 o k = some r) : ∃ v1 v2, o = some (v1, v2) ∧ k v1 v2 = some r := by
  cases o with
  | none => cases h
  | some q => exact ⟨_, _, rfl, h⟩
theorem bd2_s {α1 α2 β : Type} {k : α1 → α2 → Option β} {v1 : α1} {v2 : α2} : bd2 (some (v1, v2)) k = k v1 v2 := rfl
def bs2 {ρ α1 α2 : Type} (o : Option (ρ ⊕ (α1 × α2))) (k : α1 → α2 → Option ρ) : Option ρ := match o with | none => none | some (.inl r) => some r | some (.inr q) => k q.1 q.2
theorem bs2_el {ρ α1 α2 : Type} {o : Option (ρ ⊕ (α1 × α2))} {k : α1 → α2 → Option ρ} {r : ρ} (h : bs2 o k = some r) : ∃ z, o = some z ∧ (∀ r', z = .inl r' → r' = r) ∧ (∀ v1 v2, z = .inr (v1, v2) → k v1 v2 = some r) := by
  cases o with
  | none => cases h
  | some z =>
    cases z with
    | inl r0 => exact ⟨_, rfl, fun r' e => (by cases e; exact Option.some.inj h), fun _ _ e => by cases e⟩
    | inr q => exact ⟨_, rfl, fun r' e => (by cases e), fun _ _ e => by cases e; exact h⟩
def bd3 {α1 α2 α3 β : Type} (o : Option (α1 × α2 × α3)) (k : α1 → α2 → α3 → Option β) : Option β := match o with | none => none | some q => k q.1 q.2.1 q.2.2
theorem bd3_el {α1 α2 α3 β : Type} {o : Option (α1 × α2 × α3)} {k : α1 → α2 → α3 → Option β} {r : β} (h : bd3 o k = some r) : ∃ v1 v2 v3, o = some (v1, v2, v3) ∧ k v1 v2 v3 = some r := by
  cases o with
  | none => cases h
  | some q => exact ⟨_, _, _, rfl, h⟩
theorem bd3_s {α1 α2 α3 β : Type} {k : α1 → α2 → α3 → Option β} {v1 : α1} {v2 : α2} {v3 : α3} : bd3 (some (v1, v2, v3)) k = k v1 v2 v3 := rfl
def bs3 {ρ α1 α2 α3 : Type} (o : Option (ρ ⊕ (α1 × α2 × α3))) (k : α1 → α2 → α3 → Option ρ) : Option ρ := match o with | none => none | some (.inl r) => some r | some (.inr q) => k q.1 q.2.1 q.2.2
theorem bs3_el {ρ α1 α2 α3 : Type} {o : Option (ρ ⊕ (α1 × α2 × α3))} {k : α1 → α2 → α3 → Option ρ} {r : ρ} (h : bs3 o k = some r) : ∃ z, o = some z ∧ (∀ r', z = .inl r' → r' = r) ∧ (∀ v1 v2 v3, z = .inr (v1, v2, v3) → k v1 v2 v3 = some r) := by
  cases o with
  | none => cases h
  | some z =>
    cases z with
    | inl r0 => exact ⟨_, rfl, fun r' e => (by cases e; exact Option.some.inj h), fun _ _ _ e => by cases e⟩
    | inr q => exact ⟨_, rfl, fun r' e => (by cases e), fun _ _ _ e => by cases e; exact h⟩
def bd4 {α1 α2 α3 α4 β : Type} (o : Option (α1 × α2 × α3 × α4)) (k : α1 → α2 → α3 → α4 → Option β) : Option β := match o with | none => none | some q => k q.1 q.2.1 q.2.2.1 q.2.2.2
theorem bd4_el {α1 α2 α3 α4 β : Type} {o : Option (α1 × α2 × α3 × α4)} {k : α1 → α2 → α3 → α4 → Option β} {r : β} (h : bd4 o k = some r) : ∃ v1 v2 v3 v4, o = some (v1, v2, v3, v4) ∧ k v1 v2 v3 v4 = some r := by
  cases o with
  | none => cases h
  | some q => exact ⟨_, _, _, _, rfl, h⟩
theorem bd4_s {α1 α2 α3 α4 β : Type} {k : α1 → α2 → α3 → α4 → Option β} {v1 : α1} {v2 : α2} {v3 : α3} {v4 : α4} : bd4 (some (v1, v2, v3, v4)) k = k v1 v2 v3 v4 := rfl
def bs4 {ρ α1 α2 α3 α4 : Type} (o : Option (ρ ⊕ (α1 × α2 × α3 × α4))) (k : α1 → α2 → α3 → α4 → Option ρ) : Option ρ := match o with | none => none | some (.inl r) => some r | some (.inr q) => k q.1 q.2.1 q.2.2.1 q.2.2.2
theorem bs4_el {ρ α1 α2 α3 α4 : Type} {o : Option (ρ ⊕ (α1 × α2 × α3 × α4))} {k : α1 → α2 → α3 → α4 → Option ρ} {r : ρ} (h : bs4 o k = some r) : ∃ z, o = some z ∧ (∀ r', z = .inl r' → r' = r) ∧ (∀ v1 v2 v3 v4, z = .inr (v1, v2, v3, v4) → k v1 v2 v3 v4 = some r) := by
  cases o with
  | none => cases h
  | some z =>
    cases z with
    | inl r0 => exact ⟨_, rfl, fun r' e => (by cases e; exact Option.some.inj h), fun _ _ _ _ e => by cases e⟩
    | inr q => exact ⟨_, rfl, fun r' e => (by cases e), fun _ _ _ _ e => by cases e; exact h⟩
def bd5 {α1 α2 α3 α4 α5 β : Type} (o : Option (α1 × α2 × α3 × α4 × α5)) (k : α1 → α2 → α3 → α4 → α5 → Option β) : Option β := match o with | none => none | some q => k q.1 q.2.1 q.2.2.1 q.2.2.2.1 q.2.2.2.2
theorem bd5_el {α1 α2 α3 α4 α5 β : Type} {o : Option (α1 × α2 × α3 × α4 × α5)} {k : α1 → α2 → α3 → α4 → α5 → Option β} {r : β} (h : bd5 o k = some r) : ∃ v1 v2 v3 v4 v5, o = some (v1, v2, v3, v4, v5) ∧ k v1 v2 v3 v4 v5 = some r := by
  cases o with
  | none => cases h
  | some q => exact ⟨_, _, _, _, _, rfl, h⟩
theorem bd5_s {α1 α2 α3 α4 α5 β : Type} {k : α1 → α2 → α3 → α4 → α5 → Option β} {v1 : α1} {v2 : α2} {v3 : α3} {v4 : α4} {v5 : α5} : bd5 (some (v1, v2, v3, v4, v5)) k = k v1 v2 v3 v4 v5 := rfl
def bs5 {ρ α1 α2 α3 α4 α5 : Type} (o : Option (ρ ⊕ (α1 × α2 × α3 × α4 × α5))) (k : α1 → α2 → α3 → α4 → α5 → Option ρ) : Option ρ := match o with | none => none | some (.inl r) => some r | some (.inr q) => k q.1 q.2.1 q.2.2.1 q.2.2.2.1 q.2.2.2.2
theorem bs5_el {ρ α1 α2 α3 α4 α5 : Type} {o : Option (ρ ⊕ (α1 × α2 × α3 × α4 × α5))} {k : α1 → α2 → α3 → α4 → α5 → Option ρ} {r : ρ} (h : bs5 o k = some r) : ∃ z, o = some z ∧ (∀ r', z = .inl r' → r' = r) ∧ (∀ v1 v2 v3 v4 v5, z = .inr (v1, v2, v3, v4, v5) → k v1 v2 v3 v4 v5 = some r) := by
  cases o with
  | none => cases h
  | some z =>
    cases z with
    | inl r0 => exact ⟨_, rfl, fun r' e => (by cases e; exact Option.some.inj h), fun _ _ _ _ _ e => by cases e⟩
    | inr q => exact ⟨_, rfl, fun r' e => (by cases e), fun _ _ _ _ _ e => by cases e; exact h⟩
def bd6 {α1 α2 α3 α4 α5 α6 β : Type} (o : Option (α1 × α2 × α3 × α4 × α5 × α6)) (k : α1 → α2 → α3 → α4 → α5 → α6 → Option β) : Option β := match o with | none => none | some q => k q.1 q.2.1 q.2.2.1 q.2.2.2.1 q.2.2.2.2.1 q.2.2.2.2.2
theorem bd6_el {α1 α2 α3 α4 α5 α6 β : Type} {o : Option (α1 × α2 × α3 × α4 × α5 × α6)} {k : α1 → α2 → α3 → α4 → α5 → α6 → Option β} {r : β} (h : bd6 o k = some r) : ∃ v1 v2 v3 v4 v5 v6, o = some (v1, v2, v3, v4, v5, v6) ∧ k v1 v2 v3 v4 v5 v6 = some r := by
  cases o with
  | none => cases h
  | some q => exact ⟨_, _, _, _, _, _, rfl, h⟩
theorem bd6_s {α1 α2 α3 α4 α5 α6 β : Type} {k : α1 → α2 → α3 → α4 → α5 → α6 → Option β} {v1 : α1} {v2 : α2} {v3 : α3} {v4 : α4} {v5 : α5} {v6 : α6} : bd6 (some (v1, v2, v3, v4, v5, v6)) k = k v1 v2 v3 v4 v5 v6 := rfl
def bs6 {ρ α1 α2 α3 α4 α5 α6 : Type} (o : Option (ρ ⊕ (α1 × α2 × α3 × α4 × α5 × α6))) (k : α1 → α2 → α3 → α4 → α5 → α6 → Option ρ) : Option ρ := match o with | none => none | some (.inl r) => some r | some (.inr q) => k q.1 q.2.1 q.2.2.1 q.2.2.2.1 q.2.2.2.2.1 q.2.2.2.2.2
theorem bs6_el {ρ α1 α2 α3 α4 α5 α6 : Type} {o : Option (ρ ⊕ (α1 × α2 × α3 × α4 × α5 × α6))} {k : α1 → α2 → α3 → α4 → α5 → α6 → Option ρ} {r : ρ} (h : bs6 o k = some r) : ∃ z, o = some z ∧ (∀ r', z = .inl r' → r' = r) ∧ (∀ v1 v2 v3 v4 v5 v6, z = .inr (v1, v2, v3, v4, v5, v6) → k v1 v2 v3 v4 v5 v6 = some r) := by
  cases o with
  | none => cases h
  | some z =>
    cases z with
    | inl r0 => exact ⟨_, rfl, fun r' e => (by cases e; exact Option.some.inj h), fun _ _ _ _ _ _ e => by cases e⟩
    | inr q => exact ⟨_, rfl, fun r' e => (by cases e), fun _ _ _ _ _ _ e => by cases e; exact h⟩
def bd7 {α1 α2 α3 α4 α5 α6 α7 β : Type} (o : Option (α1 × α2 × α3 × α4 × α5 × α6 × α7)) (k : α1 → α2 → α3 → α4 → α5 → α6 → α7 → Option β) : Option β := match o with | none => none | some q => k q.1 q.2.1 q.2.2.1 q.2.2.2.1 q.2.2.2.2.1 q.2.2.2.2.2.1 q.2.2.2.2.2.2
theorem bd7_el {α1 α2 α3 α4 α5 α6 α7 β : Type} {o : Option (α1 × α2 × α3 × α4 × α5 × α6 × α7)} {k : α1 → α2 → α3 → α4 → α5 → α6 → α7 → Option β} {r : β} (h : bd7 o k = some r) : ∃ v1 v2 v3 v4 v5 v6 v7, o = some (v1, v2, v3, v4, v5, v6, v7) ∧ k v1 v2 v3 v4 v5 v6 v7 = some r := by
  cases o with
  | none => cases h
  | some q => exact ⟨_, _, _, _, _, _, _, rfl, h⟩
theorem bd7_s {α1 α2 α3 α4 α5 α6 α7 β : Type} {k : α1 → α2 → α3 → α4 → α5 → α6 → α7 → Option β} {v1 : α1} {v2 : α2} {v3 : α3} {v4 : α4} {v5 : α5} {v6 : α6} {v7 : α7} : bd7 (some (v1, v2, v3, v4, v5, v6, v7)) k = k v1 v2 v3 v4 v5 v6 v7 := rfl
def bs7 {ρ α1 α2 α3 α4 α5 α6 α7 : Type} (o : Option (ρ ⊕ (α1 × α2 × α3 × α4 × α5 × α6 × α7))) (k : α1 → α2 → α3 → α4 → α5 → α6 → α7 → Option ρ) : Option ρ := match o with | none => none | some (.inl r) => some r | some (.inr q) => k q.1 q.2.1 q.2.2.1 q.2.2.2.1 q.2.2.2.2.1 q.2.2.2.2.2.1 q.2.2.2.2.2.2
theorem bs7_el {ρ α1 α2 α3 α4 α5 α6 α7 : Type} {o : Option (ρ ⊕ (α1 × α2 × α3 × α4 × α5 × α6 × α7))} {k : α1 → α2 → α3 → α4 → α5 → α6 → α7 → Option ρ} {r : ρ} (h : bs7 o k = some r) : ∃ z, o = some z ∧ (∀ r', z = .inl r' → r' = r) ∧ (∀ v1 v2 v3 v4 v5 v6 v7, z = .inr (v1, v2, v3, v4, v5, v6, v7) → k v1 v2 v3 v4 v5 v6 v7 = some r) := by
  cases o with
  | none => cases h
  | some z =>
    cases z with
    | inl r0 => exact ⟨_, rfl, fun r' e => (by cases e; exact Option.some.inj h), fun _ _ _ _ _ _ _ e => by cases e⟩
    | inr q => exact ⟨_, rfl, fun r' e => (by cases e), fun _ _ _ _ _ _ _ e => by cases e; exact h⟩
def bd8 {α1 α2 α3 α4 α5 α6 α7 α8 β : Type} (o : Option (α1 × α2 × α3 × α4 × α5 × α6 × α7 × α8)) (k : α1 → α2 → α3 → α4 → α5 → α6 → α7 → α8 → Option β) : Option β := match o with | none => none | some q => k q.1 q.2.1 q.2.2.1 q.2.2.2.1 q.2.2.2.2.1 q.2.2.2.2.2.1 q.2.2.2.2.2.2.1 q.2.2.2.2.2.2.2
theorem bd8_el {α1 α2 α3 α4 α5 α6 α7 α8 β : Type} {o : Option (α1 × α2 × α3 × α4 × α5 × α6 × α7 × α8)} {k : α1 → α2 → α3 → α4 → α5 → α6 → α7 → α8 → Option β} {r : β} (h : bd8 o k = some r) : ∃ v1 v2 v3 v4 v5 v6 v7 v8, o = some (v1, v2, v3, v4, v5, v6, v7, v8) ∧ k v1 v2 v3 v4 v5 v6 v7 v8 = some r := by
  cases o with
  | none => cases h
  | some q => exact ⟨_, _, _, _, _, _, _, _, rfl, h⟩
theorem bd8_s {α1 α2 α3 α4 α5 α6 α7 α8 β : Type} {k : α1 → α2 → α3 → α4 → α5 → α6 → α7 → α8 → Option β} {v1 : α1} {v2 : α2} {v3 : α3} {v4 : α4} {v5 : α5} {v6 : α6} {v7 : α7} {v8 : α8} : bd8 (some (v1, v2, v3, v4, v5, v6, v7, v8)) k = k v1 v2 v3 v4 v5 v6 v7 v8 := rfl
def bs8 {ρ α1 α2 α3 α4 α5 α6 α7 α8 : Type} (o : Option (ρ ⊕ (α1 × α2 × α3 × α4 × α5 × α6 × α7 × α8))) (k : α1 → α2 → α3 → α4 → α5 → α6 → α7 → α8 → Option ρ) : Option ρ := match o with | none => none | some (.inl r) => some r | some (.inr q) => k q.1 q.2.1 q.2.2.1 q.2.2.2.1 q.2.2.2.2.1 q.2.2.2.2.2.1 q.2.2.2.2.2.2.1 q.2.2.2.2.2.2.2
theorem bs8_el {ρ α1 α2 α3 α4 α5 α6 α7 α8 : Type} {o : Option (ρ ⊕ (α1 × α2 × α3 × α4 × α5 × α6 × α7 × α8))} {k : α1 → α2 → α3 → α4 → α5 → α6 → α7 → α8 → Option ρ} {r : ρ} (h : bs8 o k = some r) : ∃ z, o = some z ∧ (∀ r', z = .inl r' → r' = r) ∧ (∀ v1 v2 v3 v4 v5 v6 v7 v8, z = .inr (v1, v2, v3, v4, v5, v6, v7, v8) → k v1 v2 v3 v4 v5 v6 v7 v8 = some r) := by
  cases o with
  | none => cases h
  | some z =>
    cases z with
    | inl r0 => exact ⟨_, rfl, fun r' e => (by cases e; exact Option.some.inj h), fun _ _ _ _ _ _ _ _ e => by cases e⟩
    | inr q => exact ⟨_, rfl, fun r' e => (by cases e), fun _ _ _ _ _ _ _ _ e => by cases e; exact h⟩
def bd9 {α1 α2 α3 α4 α5 α6 α7 α8 α9 β : Type} (o : Option (α1 × α2 × α3 × α4 × α5 × α6 × α7 × α8 × α9)) (k : α1 → α2 → α3 → α4 → α5 → α6 → α7 → α8 → α9 → Option β) : Option β := match o with | none => none | some q => k q.1 q.2.1 q.2.2.1 q.2.2.2.1 q.2.2.2.2.1 q.2.2.2.2.2.1 q.2.2.2.2.2.2.1 q.2.2.2.2.2.2.2.1 q.2.2.2.2.2.2.2.2
theorem bd9_el {α1 α2 α3 α4 α5 α6 α7 α8 α9 β : Type} {o : Option (α1 × α2 × α3 × α4 × α5 × α6 × α7 × α8 × α9)} {k : α1 → α2 → α3 → α4 → α5 → α6 → α7 → α8 → α9 → Option β} {r : β} (h : bd9 o k = some r) : ∃ v1 v2 v3 v4 v5 v6 v7 v8 v9, o = some (v1, v2, v3, v4, v5, v6, v7, v8, v9) ∧ k v1 v2 v3 v4 v5 v6 v7 v8 v9 = some r := by
  cases o with
  | none => cases h
  | some q => exact ⟨_, _, _, _, _, _, _, _, _, rfl, h⟩
theorem bd9_s {α1 α2 α3 α4 α5 α6 α7 α8 α9 β : Type} {k : α1 → α2 → α3 → α4 → α5 → α6 → α7 → α8 → α9 → Option β} {v1 : α1} {v2 : α2} {v3 : α3} {v4 : α4} {v5 : α5} {v6 : α6} {v7 : α7} {v8 : α8} {v9 : α9} : bd9 (some (v1, v2, v3, v4, v5, v6, v7, v8, v9)) k = k v1 v2 v3 v4 v5 v6 v7 v8 v9 := rfl
def bs9 {ρ α1 α2 α3 α4 α5 α6 α7 α8 α9 : Type} (o : Option (ρ ⊕ (α1 × α2 × α3 × α4 × α5 × α6 × α7 × α8 × α9))) (k : α1 → α2 → α3 → α4 → α5 → α6 → α7 → α8 → α9 → Option ρ) : Option ρ := match o with | none => none | some (.inl r) => some r | some (.inr q) => k q.1 q.2.1 q.2.2.1 q.2.2.2.1 q.2.2.2.2.1 q.2.2.2.2.2.1 q.2.2.2.2.2.2.1 q.2.2.2.2.2.2.2.1 q.2.2.2.2.2.2.2.2
theorem bs9_el {ρ α1 α2 α3 α4 α5 α6 α7 α8 α9 : Type} {o : Option (ρ ⊕ (α1 × α2 × α3 × α4 × α5 × α6 × α7 × α8 × α9))} {k : α1 → α2 → α3 → α4 → α5 → α6 → α7 → α8 → α9 → Option ρ} {r : ρ} (h : bs9 o k = some r) : ∃ z, o = some z ∧ (∀ r', z = .inl r' → r' = r) ∧ (∀ v1 v2 v3 v4 v5 v6 v7 v8 v9, z = .inr (v1, v2, v3, v4, v5, v6, v7, v8, v9) → k v1 v2 v3 v4 v5 v6 v7 v8 v9 = some r) := by
  cases o with
  | none => cases h
  | some z =>
    cases z with
    | inl r0 => exact ⟨_, rfl, fun r' e => (by cases e; exact Option.some.inj h), fun _ _ _ _ _ _ _ _ _ e => by cases e⟩
    | inr q => exact ⟨_, rfl, fun r' e => (by cases e), fun _ _ _ _ _ _ _ _ _ e => by cases e; exact h⟩
def bd10 {α1 α2 α3 α4 α5 α6 α7 α8 α9 α10 β : Type} (o : Option (α1 × α2 × α3 × α4 × α5 × α6 × α7 × α8 × α9 × α10)) (k : α1 → α2 → α3 → α4 → α5 → α6 → α7 → α8 → α9 → α10 → Option β) : Option β := match o with | none => none | some q => k q.1 q.2.1 q.2.2.1 q.2.2.2.1 q.2.2.2.2.1 q.2.2.2.2.2.1 q.2.2.2.2.2.2.1 q.2.2.2.2.2.2.2.1 q.2.2.2.2.2.2.2.2.1 q.2.2.2.2.2.2.2.2.2
theorem bd10_el {α1 α2 α3 α4 α5 α6 α7 α8 α9 α10 β : Type} {o : Option (α1 × α2 × α3 × α4 × α5 × α6 × α7 × α8 × α9 × α10)} {k : α1 → α2 → α3 → α4 → α5 → α6 → α7 → α8 → α9 → α10 → Option β} {r : β} (h : bd10 o k = some r) : ∃ v1 v2 v3 v4 v5 v6 v7 v8 v9 v10, o = some (v1, v2, v3, v4, v5, v6, v7, v8, v9, v10) ∧ k v1 v2 v3 v4 v5 v6 v7 v8 v9 v10 = some r := by
  cases o with
  | none => cases h
  | some q => exact ⟨_, _, _, _, _, _, _, _, _, _, rfl, h⟩
theorem bd10_s {α1 α2 α3 α4 α5 α6 α7 α8 α9 α10 β : Type} {k : α1 → α2 → α3 → α4 → α5 → α6 → α7 → α8 → α9 → α10 → Option β} {v1 : α1} {v2 : α2} {v3 : α3} {v4 : α4} {v5 : α5} {v6 : α6} {v7 : α7} {v8 : α8} {v9 : α9} {v10 : α10} : bd10 (some (v1, v2, v3, v4, v5, v6, v7, v8, v9, v10)) k = k v1 v2 v3 v4 v5 v6 v7 v8 v9 v10 := rfl
def bs10 {ρ α1 α2 α3 α4 α5 α6 α7 α8 α9 α10 : Type} (o : Option (ρ ⊕ (α1 × α2 × α3 × α4 × α5 × α6 × α7 × α8 × α9 × α10))) (k : α1 → α2 → α3 → α4 → α5 → α6 → α7 → α8 → α9 → α10 → Option ρ) : Option ρ := match o with | none => none | some (.inl r) => some r | some (.inr q) => k q.1 q.2.1 q.2.2.1 q.2.2.2.1 q.2.2.2.2.1 q.2.2.2.2.2.1 q.2.2.2.2.2.2.1 q.2.2.2.2.2.2.2.1 q.2.2.2.2.2.2.2.2.1 q.2.2.2.2.2.2.2.2.2
theorem bs10_el {ρ α1 α2 α3 α4 α5 α6 α7 α8 α9 α10 : Type} {o : Option (ρ ⊕ (α1 × α2 × α3 × α4 × α5 × α6 × α7 × α8 × α9 × α10))} {k : α1 → α2 → α3 → α4 → α5 → α6 → α7 → α8 → α9 → α10 → Option ρ} {r : ρ} (h : bs10 o k = some r) : ∃ z, o = some z ∧ (∀ r', z = .inl r' → r' = r) ∧ (∀ v1 v2 v3 v4 v5 v6 v7 v8 v9 v10, z = .inr (v1, v2, v3, v4, v5, v6, v7, v8, v9, v10) → k v1 v2 v3 v4 v5 v6 v7 v8 v9 v10 = some r) := by
  cases o with
  | none => cases h
  | some z =>
    cases z with
    | inl r0 => exact ⟨_, rfl, fun r' e => (by cases e; exact Option.some.inj h), fun _ _ _ _ _ _ _ _ _ _ e => by cases e⟩
    | inr q => exact ⟨_, rfl, fun r' e => (by cases e), fun _ _ _ _ _ _ _ _ _ _ e => by cases e; exact h⟩
def bd11 {α1 α2 α3 α4 α5 α6 α7 α8 α9 α10 α11 β : Type} (o : Option (α1 × α2 × α3 × α4 × α5 × α6 × α7 × α8 × α9 × α10 × α11)) (k : α1 → α2 → α3 → α4 → α5 → α6 → α7 → α8 → α9 → α10 → α11 → Option β) : Option β := match o with | none => none | some q => k q.1 q.2.1 q.2.2.1 q.2.2.2.1 q.2.2.2.2.1 q.2.2.2.2.2.1 q.2.2.2.2.2.2.1 q.2.2.2.2.2.2.2.1 q.2.2.2.2.2.2.2.2.1 q.2.2.2.2.2.2.2.2.2.1 q.2.2.2.2.2.2.2.2.2.2
theorem bd11_el {α1 α2 α3 α4 α5 α6 α7 α8 α9 α10 α11 β : Type} {o : Option (α1 × α2 × α3 × α4 × α5 × α6 × α7 × α8 × α9 × α10 × α11)} {k : α1 → α2 → α3 → α4 → α5 → α6 → α7 → α8 → α9 → α10 → α11 → Option β} {r : β} (h : bd11 o k = some r) : ∃ v1 v2 v3 v4 v5 v6 v7 v8 v9 v10 v11, o = some (v1, v2, v3, v4, v5, v6, v7, v8, v9, v10, v11) ∧ k v1 v2 v3 v4 v5 v6 v7 v8 v9 v10 v11 = some r := by
  cases o with
  | none => cases h
  | some q => exact ⟨_, _, _, _, _, _, _, _, _, _, _, rfl, h⟩
theorem bd11_s {α1 α2 α3 α4 α5 α6 α7 α8 α9 α10 α11 β : Type} {k : α1 → α2 → α3 → α4 → α5 → α6 → α7 → α8 → α9 → α10 → α11 → Option β} {v1 : α1} {v2 : α2} {v3 : α3} {v4 : α4} {v5 : α5} {v6 : α6} {v7 : α7} {v8 : α8} {v9 : α9} {v10 : α10} {v11 : α11} : bd11 (some (v1, v2, v3, v4, v5, v6, v7, v8, v9, v10, v11)) k = k v1 v2 v3 v4 v5 v6 v7 v8 v9 v10 v11 := rfl
def bs11 {ρ α1 α2 α3 α4 α5 α6 α7 α8 α9 α10 α11 : Type} (o : Option (ρ ⊕ (α1 × α2 × α3 × α4 × α5 × α6 × α7 × α8 × α9 × α10 × α11))) (k : α1 → α2 → α3 → α4 → α5 → α6 → α7 → α8 → α9 → α10 → α11 → Option ρ) : Option ρ := match o with | none => none | some (.inl r) => some r | some (.inr q) => k q.1 q.2.1 q.2.2.1 q.2.2.2.1 q.2.2.2.2.1 q.2.2.2.2.2.1 q.2.2.2.2.2.2.1 q.2.2.2.2.2.2.2.1 q.2.2.2.2.2.2.2.2.1 q.2.2.2.2.2.2.2.2.2.1 q.2.2.2.2.2.2.2.2.2.2
theorem bs11_el {ρ α1 α2 α3 α4 α5 α6 α7 α8 α9 α10 α11 : Type} {o : Option (ρ ⊕ (α1 × α2 × α3 × α4 × α5 × α6 × α7 × α8 × α9 × α10 × α11))} {k : α1 → α2 → α3 → α4 → α5 → α6 → α7 → α8 → α9 → α10 → α11 → Option ρ} {r : ρ} (h : bs11 o k = some r) : ∃ z, o = some z ∧ (∀ r', z = .inl r' → r' = r) ∧ (∀ v1 v2 v3 v4 v5 v6 v7 v8 v9 v10 v11, z = .inr (v1, v2, v3, v4, v5, v6, v7, v8, v9, v10, v11) → k v1 v2 v3 v4 v5 v6 v7 v8 v9 v10 v11 = some r) := by
  cases o with
  | none => cases h
  | some z =>
    cases z with
    | inl r0 => exact ⟨_, rfl, fun r' e => (by cases e; exact Option.some.inj h), fun _ _ _ _ _ _ _ _ _ _ _ e => by cases e⟩
    | inr q => exact ⟨_, rfl, fun r' e => (by cases e), fun _ _ _ _ _ _ _ _ _ _ _ e => by cases e; exact h⟩
def bd12 {α1 α2 α3 α4 α5 α6 α7 α8 α9 α10 α11 α12 β : Type} (o : Option (α1 × α2 × α3 × α4 × α5 × α6 × α7 × α8 × α9 × α10 × α11 × α12)) (k : α1 → α2 → α3 → α4 → α5 → α6 → α7 → α8 → α9 → α10 → α11 → α12 → Option β) : Option β := match o with | none => none | some q => k q.1 q.2.1 q.2.2.1 q.2.2.2.1 q.2.2.2.2.1 q.2.2.2.2.2.1 q.2.2.2.2.2.2.1 q.2.2.2.2.2.2.2.1 q.2.2.2.2.2.2.2.2.1 q.2.2.2.2.2.2.2.2.2.1 q.2.2.2.2.2.2.2.2.2.2.1 q.2.2.2.2.2.2.2.2.2.2.2
theorem bd12_el {α1 α2 α3 α4 α5 α6 α7 α8 α9 α10 α11 α12 β : Type} {o : Option (α1 × α2 × α3 × α4 × α5 × α6 × α7 × α8 × α9 × α10 × α11 × α12)} {k : α1 → α2 → α3 → α4 → α5 → α6 → α7 → α8 → α9 → α10 → α11 → α12 → Option β} {r : β} (h : bd12 o k = some r) : ∃ v1 v2 v3 v4 v5 v6 v7 v8 v9 v10 v11 v12, o = some (v1, v2, v3, v4, v5, v6, v7, v8, v9, v10, v11, v12) ∧ k v1 v2 v3 v4 v5 v6 v7 v8 v9 v10 v11 v12 = some r := by
  cases o with
  | none => cases h
  | some q => exact ⟨_, _, _, _, _, _, _, _, _, _, _, _, rfl, h⟩
theorem bd12_s {α1 α2 α3 α4 α5 α6 α7 α8 α9 α10 α11 α12 β : Type} {k : α1 → α2 → α3 → α4 → α5 → α6 → α7 → α8 → α9 → α10 → α11 → α12 → Option β} {v1 : α1} {v2 : α2} {v3 : α3} {v4 : α4} {v5 : α5} {v6 : α6} {v7 : α7} {v8 : α8} {v9 : α9} {v10 : α10} {v11 : α11} {v12 : α12} : bd12 (some (v1, v2, v3, v4, v5, v6, v7, v8, v9, v10, v11, v12)) k = k v1 v2 v3 v4 v5 v6 v7 v8 v9 v10 v11 v12 := rfl
def bs12 {ρ α1 α2 α3 α4 α5 α6 α7 α8 α9 α10 α11 α12 : Type} (o : Option (ρ ⊕ (α1 × α2 × α3 × α4 × α5 × α6 × α7 × α8 × α9 × α10 × α11 × α12))) (k : α1 → α2 → α3 → α4 → α5 → α6 → α7 → α8 → α9 → α10 → α11 → α12 → Option ρ) : Option ρ := match o with | none => none | some (.inl r) => some r | some (.inr q) => k q.1 q.2.1 q.2.2.1 q.2.2.2.1 q.2.2.2.2.1 q.2.2.2.2.2.1 q.2.2.2.2.2.2.1 q.2.2.2.2.2.2.2.1 q.2.2.2.2.2.2.2.2.1 q.2.2.2.2.2.2.2.2.2.1 q.2.2.2.2.2.2.2.2.2.2.1 q.2.2.2.2.2.2.2.2.2.2.2
theorem bs12_el {ρ α1 α2 α3 α4 α5 α6 α7 α8 α9 α10 α11 α12 : Type} {o : Option (ρ ⊕ (α1 × α2 × α3 × α4 × α5 × α6 × α7 × α8 × α9 × α10 × α11 × α12))} {k : α1 → α2 → α3 → α4 → α5 → α6 → α7 → α8 → α9 → α10 → α11 → α12 → Option ρ} {r : ρ} (h : bs12 o k = some r) : ∃ z, o = some z ∧ (∀ r', z = .inl r' → r' = r) ∧ (∀ v1 v2 v3 v4 v5 v6 v7 v8 v9 v10 v11 v12, z = .inr (v1, v2, v3, v4, v5, v6, v7, v8, v9, v10, v11, v12) → k v1 v2 v3 v4 v5 v6 v7 v8 v9 v10 v11 v12 = some r) := by
  cases o with
  | none => cases h
  | some z =>
    cases z with
    | inl r0 => exact ⟨_, rfl, fun r' e => (by cases e; exact Option.some.inj h), fun _ _ _ _ _ _ _ _ _ _ _ _ e => by cases e⟩
    | inr q => exact ⟨_, rfl, fun r' e => (by cases e), fun _ _ _ _ _ _ _ _ _ _ _ _ e => by cases e; exact h⟩
def bd13 {α1 α2 α3 α4 α5 α6 α7 α8 α9 α10 α11 α12 α13 β : Type} (o : Option (α1 × α2 × α3 × α4 × α5 × α6 × α7 × α8 × α9 × α10 × α11 × α12 × α13)) (k : α1 → α2 → α3 → α4 → α5 → α6 → α7 → α8 → α9 → α10 → α11 → α12 → α13 → Option β) : Option β := match o with | none => none | some q => k q.1 q.2.1 q.2.2.1 q.2.2.2.1 q.2.2.2.2.1 q.2.2.2.2.2.1 q.2.2.2.2.2.2.1 q.2.2.2.2.2.2.2.1 q.2.2.2.2.2.2.2.2.1 q.2.2.2.2.2.2.2.2.2.1 q.2.2.2.2.2.2.2.2.2.2.1 q.2.2.2.2.2.2.2.2.2.2.2.1 q.2.2.2.2.2.2.2.2.2.2.2.2
theorem bd13_el {α1 α2 α3 α4 α5 α6 α7 α8 α9 α10 α11 α12 α13 β : Type} {o : Option (α1 × α2 × α3 × α4 × α5 × α6 × α7 × α8 × α9 × α10 × α11 × α12 × α13)} {k : α1 → α2 → α3 → α4 → α5 → α6 → α7 → α8 → α9 → α10 → α11 → α12 → α13 → Option β} {r : β} (h : bd13 o k = some r) : ∃ v1 v2 v3 v4 v5 v6 v7 v8 v9 v10 v11 v12 v13, o = some (v1, v2, v3, v4, v5, v6, v7, v8, v9, v10, v11, v12, v13) ∧ k v1 v2 v3 v4 v5 v6 v7 v8 v9 v10 v11 v12 v13 = some r := by
  cases o with
  | none => cases h
  | some q => exact ⟨_, _, _, _, _, _, _, _, _, _, _, _, _, rfl, h⟩
theorem bd13_s {α1 α2 α3 α4 α5 α6 α7 α8 α9 α10 α11 α12 α13 β : Type} {k : α1 → α2 → α3 → α4 → α5 → α6 → α7 → α8 → α9 → α10 → α11 → α12 → α13 → Option β} {v1 : α1} {v2 : α2} {v3 : α3} {v4 : α4} {v5 : α5} {v6 : α6} {v7 : α7} {v8 : α8} {v9 : α9} {v10 : α10} {v11 : α11} {v12 : α12} {v13 : α13} : bd13 (some (v1, v2, v3, v4, v5, v6, v7, v8, v9, v10, v11, v12, v13)) k = k v1 v2 v3 v4 v5 v6 v7 v8 v9 v10 v11 v12 v13 := rfl
def bd14 {α1 α2 α3 α4 α5 α6 α7 α8 α9 α10 α11 α12 α13 α14 β : Type} (o : Option (α1 × α2 × α3 × α4 × α5 × α6 × α7 × α8 × α9 × α10 × α11 × α12 × α13 × α14)) (k : α1 → α2 → α3 → α4 → α5 → α6 → α7 → α8 → α9 → α10 → α11 → α12 → α13 → α14 → Option β) : Option β := match o with | none => none | some q => k q.1 q.2.1 q.2.2.1 q.2.2.2.1 q.2.2.2.2.1 q.2.2.2.2.2.1 q.2.2.2.2.2.2.1 q.2.2.2.2.2.2.2.1 q.2.2.2.2.2.2.2.2.1 q.2.2.2.2.2.2.2.2.2.1 q.2.2.2.2.2.2.2.2.2.2.1 q.2.2.2.2.2.2.2.2.2.2.2.1 q.2.2.2.2.2.2.2.2.2.2.2.2.1 q.2.2.2.2.2.2.2.2.2.2.2.2.2
theorem bd14_el {α1 α2 α3 α4 α5 α6 α7 α8 α9 α10 α11 α12 α13 α14 β : Type} {o : Option (α1 × α2 × α3 × α4 × α5 × α6 × α7 × α8 × α9 × α10 × α11 × α12 × α13 × α14)} {k : α1 → α2 → α3 → α4 → α5 → α6 → α7 → α8 → α9 → α10 → α11 → α12 → α13 → α14 → Option β} {r : β} (h : bd14 o k = some r) : ∃ v1 v2 v3 v4 v5 v6 v7 v8 v9 v10 v11 v12 v13 v14, o = some (v1, v2, v3, v4, v5, v6, v7, v8, v9, v10, v11, v12, v13, v14) ∧ k v1 v2 v3 v4 v5 v6 v7 v8 v9 v10 v11 v12 v13 v14 = some r := by
  cases o with
  | none => cases h
  | some q => exact ⟨_, _, _, _, _, _, _, _, _, _, _, _, _, _, rfl, h⟩
theorem bd14_s {α1 α2 α3 α4 α5 α6 α7 α8 α9 α10 α11 α12 α13 α14 β : Type} {k : α1 → α2 → α3 → α4 → α5 → α6 → α7 → α8 → α9 → α10 → α11 → α12 → α13 → α14 → Option β} {v1 : α1} {v2 : α2} {v3 : α3} {v4 : α4} {v5 : α5} {v6 : α6} {v7 : α7} {v8 : α8} {v9 : α9} {v10 : α10} {v11 : α11} {v12 : α12} {v13 : α13} {v14 : α14} : bd14 (some (v1, v2, v3, v4, v5, v6, v7, v8, v9, v10, v11, v12, v13, v14)) k = k v1 v2 v3 v4 v5 v6 v7 v8 v9 v10 v11 v12 v13 v14 := rfl
def bd15 {α1 α2 α3 α4 α5 α6 α7 α8 α9 α10 α11 α12 α13 α14 α15 β : Type} (o : Option (α1 × α2 × α3 × α4 × α5 × α6 × α7 × α8 × α9 × α10 × α11 × α12 × α13 × α14 × α15)) (k : α1 → α2 → α3 → α4 → α5 → α6 → α7 → α8 → α9 → α10 → α11 → α12 → α13 → α14 → α15 → Option β) : Option β := match o with | none => none | some q => k q.1 q.2.1 q.2.2.1 q.2.2.2.1 q.2.2.2.2.1 q.2.2.2.2.2.1 q.2.2.2.2.2.2.1 q.2.2.2.2.2.2.2.1 q.2.2.2.2.2.2.2.2.1 q.2.2.2.2.2.2.2.2.2.1 q.2.2.2.2.2.2.2.2.2.2.1 q.2.2.2.2.2.2.2.2.2.2.2.1 q.2.2.2.2.2.2.2.2.2.2.2.2.1 q.2.2.2.2.2.2.2.2.2.2.2.2.2.1 q.2.2.2.2.2.2.2.2.2.2.2.2.2.2
theorem bd15_el {α1 α2 α3 α4 α5 α6 α7 α8 α9 α10 α11 α12 α13 α14 α15 β : Type} {o : Option (α1 × α2 × α3 × α4 × α5 × α6 × α7 × α8 × α9 × α10 × α11 × α12 × α13 × α14 × α15)} {k : α1 → α2 → α3 → α4 → α5 → α6 → α7 → α8 → α9 → α10 → α11 → α12 → α13 → α14 → α15 → Option β} {r : β} (h : bd15 o k = some r) : ∃ v1 v2 v3 v4 v5 v6 v7 v8 v9 v10 v11 v12 v13 v14 v15, o = some (v1, v2, v3, v4, v5, v6, v7, v8, v9, v10, v11, v12, v13, v14, v15) ∧ k v1 v2 v3 v4 v5 v6 v7 v8 v9 v10 v11 v12 v13 v14 v15 = some r := by
  cases o with
  | none => cases h
  | some q => exact ⟨_, _, _, _, _, _, _, _, _, _, _, _, _, _, _, rfl, h⟩
theorem bd15_s {α1 α2 α3 α4 α5 α6 α7 α8 α9 α10 α11 α12 α13 α14 α15 β : Type} {k : α1 → α2 → α3 → α4 → α5 → α6 → α7 → α8 → α9 → α10 → α11 → α12 → α13 → α14 → α15 → Option β} {v1 : α1} {v2 : α2} {v3 : α3} {v4 : α4} {v5 : α5} {v6 : α6} {v7 : α7} {v8 : α8} {v9 : α9} {v10 : α10} {v11 : α11} {v12 : α12} {v13 : α13} {v14 : α14} {v15 : α15} : bd15 (some (v1, v2, v3, v4, v5, v6, v7, v8, v9, v10, v11, v12, v13, v14, v15)) k = k v1 v2 v3 v4 v5 v6 v7 v8 v9 v10 v11 v12 v13 v14 v15 := rfl
def bd16 {α1 α2 α3 α4 α5 α6 α7 α8 α9 α10 α11 α12 α13 α14 α15 α16 β : Type} (o : Option (α1 × α2 × α3 × α4 × α5 × α6 × α7 × α8 × α9 × α10 × α11 × α12 × α13 × α14 × α15 × α16)) (k : α1 → α2 → α3 → α4 → α5 → α6 → α7 → α8 → α9 → α10 → α11 → α12 → α13 → α14 → α15 → α16 → Option β) : Option β := match o with | none => none | some q => k q.1 q.2.1 q.2.2.1 q.2.2.2.1 q.2.2.2.2.1 q.2.2.2.2.2.1 q.2.2.2.2.2.2.1 q.2.2.2.2.2.2.2.1 q.2.2.2.2.2.2.2.2.1 q.2.2.2.2.2.2.2.2.2.1 q.2.2.2.2.2.2.2.2.2.2.1 q.2.2.2.2.2.2.2.2.2.2.2.1 q.2.2.2.2.2.2.2.2.2.2.2.2.1 q.2.2.2.2.2.2.2.2.2.2.2.2.2.1 q.2.2.2.2.2.2.2.2.2.2.2.2.2.2.1 q.2.2.2.2.2.2.2.2.2.2.2.2.2.2.2
theorem bd16_el {α1 α2 α3 α4 α5 α6 α7 α8 α9 α10 α11 α12 α13 α14 α15 α16 β : Type} {o : Option (α1 × α2 × α3 × α4 × α5 × α6 × α7 × α8 × α9 × α10 × α11 × α12 × α13 × α14 × α15 × α16)} {k : α1 → α2 → α3 → α4 → α5 → α6 → α7 → α8 → α9 → α10 → α11 → α12 → α13 → α14 → α15 → α16 → Option β} {r : β} (h : bd16 o k = some r) : ∃ v1 v2 v3 v4 v5 v6 v7 v8 v9 v10 v11 v12 v13 v14 v15 v16, o = some (v1, v2, v3, v4, v5, v6, v7, v8, v9, v10, v11, v12, v13, v14, v15, v16) ∧ k v1 v2 v3 v4 v5 v6 v7 v8 v9 v10 v11 v12 v13 v14 v15 v16 = some r := by
  cases o with
  | none => cases h
  | some q => exact ⟨_, _, _, _, _, _, _, _, _, _, _, _, _, _, _, _, rfl, h⟩
theorem bd16_s {α1 α2 α3 α4 α5 α6 α7 α8 α9 α10 α11 α12 α13 α14 α15 α16 β : Type} {k : α1 → α2 → α3 → α4 → α5 → α6 → α7 → α8 → α9 → α10 → α11 → α12 → α13 → α14 → α15 → α16 → Option β} {v1 : α1} {v2 : α2} {v3 : α3} {v4 : α4} {v5 : α5} {v6 : α6} {v7 : α7} {v8 : α8} {v9 : α9} {v10 : α10} {v11 : α11} {v12 : α12} {v13 : α13} {v14 : α14} {v15 : α15} {v16 : α16} : bd16 (some (v1, v2, v3, v4, v5, v6, v7, v8, v9, v10, v11, v12, v13, v14, v15, v16)) k = k v1 v2 v3 v4 v5 v6 v7 v8 v9 v10 v11 v12 v13 v14 v15 v16 := rfl
def bd17 {α1 α2 α3 α4 α5 α6 α7 α8 α9 α10 α11 α12 α13 α14 α15 α16 α17 β : Type} (o : Option (α1 × α2 × α3 × α4 × α5 × α6 × α7 × α8 × α9 × α10 × α11 × α12 × α13 × α14 × α15 × α16 × α17)) (k : α1 → α2 → α3 → α4 → α5 → α6 → α7 → α8 → α9 → α10 → α11 → α12 → α13 → α14 → α15 → α16 → α17 → Option β) : Option β := match o with | none => none | some q => k q.1 q.2.1 q.2.2.1 q.2.2.2.1 q.2.2.2.2.1 q.2.2.2.2.2.1 q.2.2.2.2.2.2.1 q.2.2.2.2.2.2.2.1 q.2.2.2.2.2.2.2.2.1 q.2.2.2.2.2.2.2.2.2.1 q.2.2.2.2.2.2.2.2.2.2.1 q.2.2.2.2.2.2.2.2.2.2.2.1 q.2.2.2.2.2.2.2.2.2.2.2.2.1 q.2.2.2.2.2.2.2.2.2.2.2.2.2.1 q.2.2.2.2.2.2.2.2.2.2.2.2.2.2.1 q.2.2.2.2.2.2.2.2.2.2.2.2.2.2.2.1 q.2.2.2.2.2.2.2.2.2.2.2.2.2.2.2.2
theorem bd17_el {α1 α2 α3 α4 α5 α6 α7 α8 α9 α10 α11 α12 α13 α14 α15 α16 α17 β : Type} {o : Option (α1 × α2 × α3 × α4 × α5 × α6 × α7 × α8 × α9 × α10 × α11 × α12 × α13 × α14 × α15 × α16 × α17)} {k : α1 → α2 → α3 → α4 → α5 → α6 → α7 → α8 → α9 → α10 → α11 → α12 → α13 → α14 → α15 → α16 → α17 → Option β} {r : β} (h : bd17 o k = some r) : ∃ v1 v2 v3 v4 v5 v6 v7 v8 v9 v10 v11 v12 v13 v14 v15 v16 v17, o = some (v1, v2, v3, v4, v5, v6, v7, v8, v9, v10, v11, v12, v13, v14, v15, v16, v17) ∧ k v1 v2 v3 v4 v5 v6 v7 v8 v9 v10 v11 v12 v13 v14 v15 v16 v17 = some r := by
  cases o with
  | none => cases h
  | some q => exact ⟨_, _, _, _, _, _, _, _, _, _, _, _, _, _, _, _, _, rfl, h⟩
theorem bd17_s {α1 α2 α3 α4 α5 α6 α7 α8 α9 α10 α11 α12 α13 α14 α15 α16 α17 β : Type} {k : α1 → α2 → α3 → α4 → α5 → α6 → α7 → α8 → α9 → α10 → α11 → α12 → α13 → α14 → α15 → α16 → α17 → Option β} {v1 : α1} {v2 : α2} {v3 : α3} {v4 : α4} {v5 : α5} {v6 : α6} {v7 : α7} {v8 : α8} {v9 : α9} {v10 : α10} {v11 : α11} {v12 : α12} {v13 : α13} {v14 : α14} {v15 : α15} {v16 : α16} {v17 : α17} : bd17 (some (v1, v2, v3, v4, v5, v6, v7, v8, v9, v10, v11, v12, v13, v14, v15, v16, v17)) k = k v1 v2 v3 v4 v5 v6 v7 v8 v9 v10 v11 v12 v13 v14 v15 v16 v17 := rfl
def bd18 {α1 α2 α3 α4 α5 α6 α7 α8 α9 α10 α11 α12 α13 α14 α15 α16 α17 α18 β : Type} (o : Option (α1 × α2 × α3 × α4 × α5 × α6 × α7 × α8 × α9 × α10 × α11 × α12 × α13 × α14 × α15 × α16 × α17 × α18)) (k : α1 → α2 → α3 → α4 → α5 → α6 → α7 → α8 → α9 → α10 → α11 → α12 → α13 → α14 → α15 → α16 → α17 → α18 → Option β) : Option β := match o with | none => none | some q => k q.1 q.2.1 q.2.2.1 q.2.2.2.1 q.2.2.2.2.1 q.2.2.2.2.2.1 q.2.2.2.2.2.2.1 q.2.2.2.2.2.2.2.1 q.2.2.2.2.2.2.2.2.1 q.2.2.2.2.2.2.2.2.2.1 q.2.2.2.2.2.2.2.2.2.2.1 q.2.2.2.2.2.2.2.2.2.2.2.1 q.2.2.2.2.2.2.2.2.2.2.2.2.1 q.2.2.2.2.2.2.2.2.2.2.2.2.2.1 q.2.2.2.2.2.2.2.2.2.2.2.2.2.2.1 q.2.2.2.2.2.2.2.2.2.2.2.2.2.2.2.1 q.2.2.2.2.2.2.2.2.2.2.2.2.2.2.2.2.1 q.2.2.2.2.2.2.2.2.2.2.2.2.2.2.2.2.2
theorem bd18_el {α1 α2 α3 α4 α5 α6 α7 α8 α9 α10 α11 α12 α13 α14 α15 α16 α17 α18 β : Type} {o : Option (α1 × α2 × α3 × α4 × α5 × α6 × α7 × α8 × α9 × α10 × α11 × α12 × α13 × α14 × α15 × α16 × α17 × α18)} {k : α1 → α2 → α3 → α4 → α5 → α6 → α7 → α8 → α9 → α10 → α11 → α12 → α13 → α14 → α15 → α16 → α17 → α18 → Option β} {r : β} (h : bd18 o k = some r) : ∃ v1 v2 v3 v4 v5 v6 v7 v8 v9 v10 v11 v12 v13 v14 v15 v16 v17 v18, o = some (v1, v2, v3, v4, v5, v6, v7, v8, v9, v10, v11, v12, v13, v14, v15, v16, v17, v18) ∧ k v1 v2 v3 v4 v5 v6 v7 v8 v9 v10 v11 v12 v13 v14 v15 v16 v17 v18 = some r := by
  cases o with
  | none => cases h
  | some q => exact ⟨_, _, _, _, _, _, _, _, _, _, _, _, _, _, _, _, _, _, rfl, h⟩
theorem bd18_s {α1 α2 α3 α4 α5 α6 α7 α8 α9 α10 α11 α12 α13 α14 α15 α16 α17 α18 β : Type} {k : α1 → α2 → α3 → α4 → α5 → α6 → α7 → α8 → α9 → α10 → α11 → α12 → α13 → α14 → α15 → α16 → α17 → α18 → Option β} {v1 : α1} {v2 : α2} {v3 : α3} {v4 : α4} {v5 : α5} {v6 : α6} {v7 : α7} {v8 : α8} {v9 : α9} {v10 : α10} {v11 : α11} {v12 : α12} {v13 : α13} {v14 : α14} {v15 : α15} {v16 : α16} {v17 : α17} {v18 : α18} : bd18 (some (v1, v2, v3, v4, v5, v6, v7, v8, v9, v10, v11, v12, v13, v14, v15, v16, v17, v18)) k = k v1 v2 v3 v4 v5 v6 v7 v8 v9 v10 v11 v12 v13 v14 v15 v16 v17 v18 := rfl
def bd19 {α1 α2 α3 α4 α5 α6 α7 α8 α9 α10 α11 α12 α13 α14 α15 α16 α17 α18 α19 β : Type} (o : Option (α1 × α2 × α3 × α4 × α5 × α6 × α7 × α8 × α9 × α10 × α11 × α12 × α13 × α14 × α15 × α16 × α17 × α18 × α19)) (k : α1 → α2 → α3 → α4 → α5 → α6 → α7 → α8 → α9 → α10 → α11 → α12 → α13 → α14 → α15 → α16 → α17 → α18 → α19 → Option β) : Option β := match o with | none => none | some q => k q.1 q.2.1 q.2.2.1 q.2.2.2.1 q.2.2.2.2.1 q.2.2.2.2.2.1 q.2.2.2.2.2.2.1 q.2.2.2.2.2.2.2.1 q.2.2.2.2.2.2.2.2.1 q.2.2.2.2.2.2.2.2.2.1 q.2.2.2.2.2.2.2.2.2.2.1 q.2.2.2.2.2.2.2.2.2.2.2.1 q.2.2.2.2.2.2.2.2.2.2.2.2.1 q.2.2.2.2.2.2.2.2.2.2.2.2.2.1 q.2.2.2.2.2.2.2.2.2.2.2.2.2.2.1 q.2.2.2.2.2.2.2.2.2.2.2.2.2.2.2.1 q.2.2.2.2.2.2.2.2.2.2.2.2.2.2.2.2.1 q.2.2.2.2.2.2.2.2.2.2.2.2.2.2.2.2.2.1 q.2.2.2.2.2.2.2.2.2.2.2.2.2.2.2.2.2.2
theorem bd19_el {α1 α2 α3 α4 α5 α6 α7 α8 α9 α10 α11 α12 α13 α14 α15 α16 α17 α18 α19 β : Type} {o : Option (α1 × α2 × α3 × α4 × α5 × α6 × α7 × α8 × α9 × α10 × α11 × α12 × α13 × α14 × α15 × α16 × α17 × α18 × α19)} {k : α1 → α2 → α3 → α4 → α5 → α6 → α7 → α8 → α9 → α10 → α11 → α12 → α13 → α14 → α15 → α16 → α17 → α18 → α19 → Option β} {r : β} (h : bd19 o k = some r) : ∃ v1 v2 v3 v4 v5 v6 v7 v8 v9 v10 v11 v12 v13 v14 v15 v16 v17 v18 v19, o = some (v1, v2, v3, v4, v5, v6, v7, v8, v9, v10, v11, v12, v13, v14, v15, v16, v17, v18, v19) ∧ k v1 v2 v3 v4 v5 v6 v7 v8 v9 v10 v11 v12 v13 v14 v15 v16 v17 v18 v19 = some r := by
  cases o with
  | none => cases h
  | some q => exact ⟨_, _, _, _, _, _, _, _, _, _, _, _, _, _, _, _, _, _, _, rfl, h⟩
theorem bd19_s {α1 α2 α3 α4 α5 α6 α7 α8 α9 α10 α11 α12 α13 α14 α15 α16 α17 α18 α19 β : Type} {k : α1 → α2 → α3 → α4 → α5 → α6 → α7 → α8 → α9 → α10 → α11 → α12 → α13 → α14 → α15 → α16 → α17 → α18 → α19 → Option β} {v1 : α1} {v2 : α2} {v3 : α3} {v4 : α4} {v5 : α5} {v6 : α6} {v7 : α7} {v8 : α8} {v9 : α9} {v10 : α10} {v11 : α11} {v12 : α12} {v13 : α13} {v14 : α14} {v15 : α15} {v16 : α16} {v17 : α17} {v18 : α18} {v19 : α19} : bd19 (some (v1, v2, v3, v4, v5, v6, v7, v8, v9, v10, v11, v12, v13, v14, v15, v16, v17, v18, v19)) k = k v1 v2 v3 v4 v5 v6 v7 v8 v9 v10 v11 v12 v13 v14 v15 v16 v17 v18 v19 := rfl
def bd20 {α1 α2 α3 α4 α5 α6 α7 α8 α9 α10 α11 α12 α13 α14 α15 α16 α17 α18 α19 α20 β : Type} (o : Option (α1 × α2 × α3 × α4 × α5 × α6 × α7 × α8 × α9 × α10 × α11 × α12 × α13 × α14 × α15 × α16 × α17 × α18 × α19 × α20)) (k : α1 → α2 → α3 → α4 → α5 → α6 → α7 → α8 → α9 → α10 → α11 → α12 → α13 → α14 → α15 → α16 → α17 → α18 → α19 → α20 → Option β) : Option β := match o with | none => none | some q => k q.1 q.2.1 q.2.2.1 q.2.2.2.1 q.2.2.2.2.1 q.2.2.2.2.2.1 q.2.2.2.2.2.2.1 q.2.2.2.2.2.2.2.1 q.2.2.2.2.2.2.2.2.1 q.2.2.2.2.2.2.2.2.2.1 q.2.2.2.2.2.2.2.2.2.2.1 q.2.2.2.2.2.2.2.2.2.2.2.1 q.2.2.2.2.2.2.2.2.2.2.2.2.1 q.2.2.2.2.2.2.2.2.2.2.2.2.2.1 q.2.2.2.2.2.2.2.2.2.2.2.2.2.2.1 q.2.2.2.2.2.2.2.2.2.2.2.2.2.2.2.1 q.2.2.2.2.2.2.2.2.2.2.2.2.2.2.2.2.1 q.2.2.2.2.2.2.2.2.2.2.2.2.2.2.2.2.2.1 q.2.2.2.2.2.2.2.2.2.2.2.2.2.2.2.2.2.2.1 q.2.2.2.2.2.2.2.2.2.2.2.2.2.2.2.2.2.2.2
theorem bd20_el {α1 α2 α3 α4 α5 α6 α7 α8 α9 α10 α11 α12 α13 α14 α15 α16 α17 α18 α19 α20 β : Type} {o : Option (α1 × α2 × α3 × α4 × α5 × α6 × α7 × α8 × α9 × α10 × α11 × α12 × α13 × α14 × α15 × α16 × α17 × α18 × α19 × α20)} {k : α1 → α2 → α3 → α4 → α5 → α6 → α7 → α8 → α9 → α10 → α11 → α12 → α13 → α14 → α15 → α16 → α17 → α18 → α19 → α20 → Option β} {r : β} (h : bd20 o k = some r) : ∃ v1 v2 v3 v4 v5 v6 v7 v8 v9 v10 v11 v12 v13 v14 v15 v16 v17 v18 v19 v20, o = some (v1, v2, v3, v4, v5, v6, v7, v8, v9, v10, v11, v12, v13, v14, v15, v16, v17, v18, v19, v20) ∧ k v1 v2 v3 v4 v5 v6 v7 v8 v9 v10 v11 v12 v13 v14 v15 v16 v17 v18 v19 v20 = some r := by
  cases o with
  | none => cases h
  | some q => exact ⟨_, _, _, _, _, _, _, _, _, _, _, _, _, _, _, _, _, _, _, _, rfl, h⟩
theorem bd20_s {α1 α2 α3 α4 α5 α6 α7 α8 α9 α10 α11 α12 α13 α14 α15 α16 α17 α18 α19 α20 β : Type} {k : α1 → α2 → α3 → α4 → α5 → α6 → α7 → α8 → α9 → α10 → α11 → α12 → α13 → α14 → α15 → α16 → α17 → α18 → α19 → α20 → Option β} {v1 : α1} {v2 : α2} {v3 : α3} {v4 : α4} {v5 : α5} {v6 : α6} {v7 : α7} {v8 : α8} {v9 : α9} {v10 : α10} {v11 : α11} {v12 : α12} {v13 : α13} {v14 : α14} {v15 : α15} {v16 : α16} {v17 : α17} {v18 : α18} {v19 : α19} {v20 : α20} : bd20 (some (v1, v2, v3, v4, v5, v6, v7, v8, v9, v10, v11, v12, v13, v14, v15, v16, v17, v18, v19, v20)) k = k v1 v2 v3 v4 v5 v6 v7 v8 v9 v10 v11 v12 v13 v14 v15 v16 v17 v18 v19 v20 := rfl
def bd21 {α1 α2 α3 α4 α5 α6 α7 α8 α9 α10 α11 α12 α13 α14 α15 α16 α17 α18 α19 α20 α21 β : Type} (o : Option (α1 × α2 × α3 × α4 × α5 × α6 × α7 × α8 × α9 × α10 × α11 × α12 × α13 × α14 × α15 × α16 × α17 × α18 × α19 × α20 × α21)) (k : α1 → α2 → α3 → α4 → α5 → α6 → α7 → α8 → α9 → α10 → α11 → α12 → α13 → α14 → α15 → α16 → α17 → α18 → α19 → α20 → α21 → Option β) : Option β := match o with | none => none | some q => k q.1 q.2.1 q.2.2.1 q.2.2.2.1 q.2.2.2.2.1 q.2.2.2.2.2.1 q.2.2.2.2.2.2.1 q.2.2.2.2.2.2.2.1 q.2.2.2.2.2.2.2.2.1 q.2.2.2.2.2.2.2.2.2.1 q.2.2.2.2.2.2.2.2.2.2.1 q.2.2.2.2.2.2.2.2.2.2.2.1 q.2.2.2.2.2.2.2.2.2.2.2.2.1 q.2.2.2.2.2.2.2.2.2.2.2.2.2.1 q.2.2.2.2.2.2.2.2.2.2.2.2.2.2.1 q.2.2.2.2.2.2.2.2.2.2.2.2.2.2.2.1 q.2.2.2.2.2.2.2.2.2.2.2.2.2.2.2.2.1 q.2.2.2.2.2.2.2.2.2.2.2.2.2.2.2.2.2.1 q.2.2.2.2.2.2.2.2.2.2.2.2.2.2.2.2.2.2.1 q.2.2.2.2.2.2.2.2.2.2.2.2.2.2.2.2.2.2.2.1 q.2.2.2.2.2.2.2.2.2.2.2.2.2.2.2.2.2.2.2.2
theorem bd21_el {α1 α2 α3 α4 α5 α6 α7 α8 α9 α10 α11 α12 α13 α14 α15 α16 α17 α18 α19 α20 α21 β : Type} {o : Option (α1 × α2 × α3 × α4 × α5 × α6 × α7 × α8 × α9 × α10 × α11 × α12 × α13 × α14 × α15 × α16 × α17 × α18 × α19 × α20 × α21)} {k : α1 → α2 → α3 → α4 → α5 → α6 → α7 → α8 → α9 → α10 → α11 → α12 → α13 → α14 → α15 → α16 → α17 → α18 → α19 → α20 → α21 → Option β} {r : β} (h : bd21 o k = some r) : ∃ v1 v2 v3 v4 v5 v6 v7 v8 v9 v10 v11 v12 v13 v14 v15 v16 v17 v18 v19 v20 v21, o = some (v1, v2, v3, v4, v5, v6, v7, v8, v9, v10, v11, v12, v13, v14, v15, v16, v17, v18, v19, v20, v21) ∧ k v1 v2 v3 v4 v5 v6 v7 v8 v9 v10 v11 v12 v13 v14 v15 v16 v17 v18 v19 v20 v21 = some r := by
  cases o with
  | none => cases h
  | some q => exact ⟨_, _, _, _, _, _, _, _, _, _, _, _, _, _, _, _, _, _, _, _, _, rfl, h⟩
theorem bd21_s {α1 α2 α3 α4 α5 α6 α7 α8 α9 α10 α11 α12 α13 α14 α15 α16 α17 α18 α19 α20 α21 β : Type} {k : α1 → α2 → α3 → α4 → α5 → α6 → α7 → α8 → α9 → α10 → α11 → α12 → α13 → α14 → α15 → α16 → α17 → α18 → α19 → α20 → α21 → Option β} {v1 : α1} {v2 : α2} {v3 : α3} {v4 : α4} {v5 : α5} {v6 : α6} {v7 : α7} {v8 : α8} {v9 : α9} {v10 : α10} {v11 : α11} {v12 : α12} {v13 : α13} {v14 : α14} {v15 : α15} {v16 : α16} {v17 : α17} {v18 : α18} {v19 : α19} {v20 : α20} {v21 : α21} : bd21 (some (v1, v2, v3, v4, v5, v6, v7, v8, v9, v10, v11, v12, v13, v14, v15, v16, v17, v18, v19, v20, v21)) k = k v1 v2 v3 v4 v5 v6 v7 v8 v9 v10 v11 v12 v13 v14 v15 v16 v17 v18 v19 v20 v21 := rfl
def bd22 {α1 α2 α3 α4 α5 α6 α7 α8 α9 α10 α11 α12 α13 α14 α15 α16 α17 α18 α19 α20 α21 α22 β : Type} (o : Option (α1 × α2 × α3 × α4 × α5 × α6 × α7 × α8 × α9 × α10 × α11 × α12 × α13 × α14 × α15 × α16 × α17 × α18 × α19 × α20 × α21 × α22)) (k : α1 → α2 → α3 → α4 → α5 → α6 → α7 → α8 → α9 → α10 → α11 → α12 → α13 → α14 → α15 → α16 → α17 → α18 → α19 → α20 → α21 → α22 → Option β) : Option β := match o with | none => none | some q => k q.1 q.2.1 q.2.2.1 q.2.2.2.1 q.2.2.2.2.1 q.2.2.2.2.2.1 q.2.2.2.2.2.2.1 q.2.2.2.2.2.2.2.1 q.2.2.2.2.2.2.2.2.1 q.2.2.2.2.2.2.2.2.2.1 q.2.2.2.2.2.2.2.2.2.2.1 q.2.2.2.2.2.2.2.2.2.2.2.1 q.2.2.2.2.2.2.2.2.2.2.2.2.1 q.2.2.2.2.2.2.2.2.2.2.2.2.2.1 q.2.2.2.2.2.2.2.2.2.2.2.2.2.2.1 q.2.2.2.2.2.2.2.2.2.2.2.2.2.2.2.1 q.2.2.2.2.2.2.2.2.2.2.2.2.2.2.2.2.1 q.2.2.2.2.2.2.2.2.2.2.2.2.2.2.2.2.2.1 q.2.2.2.2.2.2.2.2.2.2.2.2.2.2.2.2.2.2.1 q.2.2.2.2.2.2.2.2.2.2.2.2.2.2.2.2.2.2.2.1 q.2.2.2.2.2.2.2.2.2.2.2.2.2.2.2.2.2.2.2.2.1 q.2.2.2.2.2.2.2.2.2.2.2.2.2.2.2.2.2.2.2.2.2
theorem bd22_el {α1 α2 α3 α4 α5 α6 α7 α8 α9 α10 α11 α12 α13 α14 α15 α16 α17 α18 α19 α20 α21 α22 β : Type} {o : Option (α1 × α2 × α3 × α4 × α5 × α6 × α7 × α8 × α9 × α10 × α11 × α12 × α13 × α14 × α15 × α16 × α17 × α18 × α19 × α20 × α21 × α22)} {k : α1 → α2 → α3 → α4 → α5 → α6 → α7 → α8 → α9 → α10 → α11 → α12 → α13 → α14 → α15 → α16 → α17 → α18 → α19 → α20 → α21 → α22 → Option β} {r : β} (h : bd22 o k = some r) : ∃ v1 v2 v3 v4 v5 v6 v7 v8 v9 v10 v11 v12 v13 v14 v15 v16 v17 v18 v19 v20 v21 v22, o = some (v1, v2, v3, v4, v5, v6, v7, v8, v9, v10, v11, v12, v13, v14, v15, v16, v17, v18, v19, v20, v21, v22) ∧ k v1 v2 v3 v4 v5 v6 v7 v8 v9 v10 v11 v12 v13 v14 v15 v16 v17 v18 v19 v20 v21 v22 = some r := by
  cases o with
  | none => cases h
  | some q => exact ⟨_, _, _, _, _, _, _, _, _, _, _, _, _, _, _, _, _, _, _, _, _, _, rfl, h⟩
theorem bd22_s {α1 α2 α3 α4 α5 α6 α7 α8 α9 α10 α11 α12 α13 α14 α15 α16 α17 α18 α19 α20 α21 α22 β : Type} {k : α1 → α2 → α3 → α4 → α5 → α6 → α7 → α8 → α9 → α10 → α11 → α12 → α13 → α14 → α15 → α16 → α17 → α18 → α19 → α20 → α21 → α22 → Option β} {v1 : α1} {v2 : α2} {v3 : α3} {v4 : α4} {v5 : α5} {v6 : α6} {v7 : α7} {v8 : α8} {v9 : α9} {v10 : α10} {v11 : α11} {v12 : α12} {v13 : α13} {v14 : α14} {v15 : α15} {v16 : α16} {v17 : α17} {v18 : α18} {v19 : α19} {v20 : α20} {v21 : α21} {v22 : α22} : bd22 (some (v1, v2, v3, v4, v5, v6, v7, v8, v9, v10, v11, v12, v13, v14, v15, v16, v17, v18, v19, v20, v21, v22)) k = k v1 v2 v3 v4 v5 v6 v7 v8 v9 v10 v11 v12 v13 v14 v15 v16 v17 v18 v19 v20 v21 v22 := rfl
def bd23 {α1 α2 α3 α4 α5 α6 α7 α8 α9 α10 α11 α12 α13 α14 α15 α16 α17 α18 α19 α20 α21 α22 α23 β : Type} (o : Option (α1 × α2 × α3 × α4 × α5 × α6 × α7 × α8 × α9 × α10 × α11 × α12 × α13 × α14 × α15 × α16 × α17 × α18 × α19 × α20 × α21 × α22 × α23)) (k : α1 → α2 → α3 → α4 → α5 → α6 → α7 → α8 → α9 → α10 → α11 → α12 → α13 → α14 → α15 → α16 → α17 → α18 → α19 → α20 → α21 → α22 → α23 → Option β) : Option β := match o with | none => none | some q => k q.1 q.2.1 q.2.2.1 q.2.2.2.1 q.2.2.2.2.1 q.2.2.2.2.2.1 q.2.2.2.2.2.2.1 q.2.2.2.2.2.2.2.1 q.2.2.2.2.2.2.2.2.1 q.2.2.2.2.2.2.2.2.2.1 q.2.2.2.2.2.2.2.2.2.2.1 q.2.2.2.2.2.2.2.2.2.2.2.1 q.2.2.2.2.2.2.2.2.2.2.2.2.1 q.2.2.2.2.2.2.2.2.2.2.2.2.2.1 q.2.2.2.2.2.2.2.2.2.2.2.2.2.2.1 q.2.2.2.2.2.2.2.2.2.2.2.2.2.2.2.1 q.2.2.2.2.2.2.2.2.2.2.2.2.2.2.2.2.1 q.2.2.2.2.2.2.2.2.2.2.2.2.2.2.2.2.2.1 q.2.2.2.2.2.2.2.2.2.2.2.2.2.2.2.2.2.2.1 q.2.2.2.2.2.2.2.2.2.2.2.2.2.2.2.2.2.2.2.1 q.2.2.2.2.2.2.2.2.2.2.2.2.2.2.2.2.2.2.2.2.1 q.2.2.2.2.2.2.2.2.2.2.2.2.2.2.2.2.2.2.2.2.2.1 q.2.2.2.2.2.2.2.2.2.2.2.2.2.2.2.2.2.2.2.2.2.2
theorem bd23_el {α1 α2 α3 α4 α5 α6 α7 α8 α9 α10 α11 α12 α13 α14 α15 α16 α17 α18 α19 α20 α21 α22 α23 β : Type} {o : Option (α1 × α2 × α3 × α4 × α5 × α6 × α7 × α8 × α9 × α10 × α11 × α12 × α13 × α14 × α15 × α16 × α17 × α18 × α19 × α20 × α21 × α22 × α23)} {k : α1 → α2 → α3 → α4 → α5 → α6 → α7 → α8 → α9 → α10 → α11 → α12 → α13 → α14 → α15 → α16 → α17 → α18 → α19 → α20 → α21 → α22 → α23 → Option β} {r : β} (h : bd23 o k = some r) : ∃ v1 v2 v3 v4 v5 v6 v7 v8 v9 v10 v11 v12 v13 v14 v15 v16 v17 v18 v19 v20 v21 v22 v23, o = some (v1, v2, v3, v4, v5, v6, v7, v8, v9, v10, v11, v12, v13, v14, v15, v16, v17, v18, v19, v20, v21, v22, v23) ∧ k v1 v2 v3 v4 v5 v6 v7 v8 v9 v10 v11 v12 v13 v14 v15 v16 v17 v18 v19 v20 v21 v22 v23 = some r := by
  cases o with
  | none => cases h
  | some q => exact ⟨_, _, _, _, _, _, _, _, _, _, _, _, _, _, _, _, _, _, _, _, _, _, _, rfl, h⟩
theorem bd23_s {α1 α2 α3 α4 α5 α6 α7 α8 α9 α10 α11 α12 α13 α14 α15 α16 α17 α18 α19 α20 α21 α22 α23 β : Type} {k : α1 → α2 → α3 → α4 → α5 → α6 → α7 → α8 → α9 → α10 → α11 → α12 → α13 → α14 → α15 → α16 → α17 → α18 → α19 → α20 → α21 → α22 → α23 → Option β} {v1 : α1} {v2 : α2} {v3 : α3} {v4 : α4} {v5 : α5} {v6 : α6} {v7 : α7} {v8 : α8} {v9 : α9} {v10 : α10} {v11 : α11} {v12 : α12} {v13 : α13} {v14 : α14} {v15 : α15} {v16 : α16} {v17 : α17} {v18 : α18} {v19 : α19} {v20 : α20} {v21 : α21} {v22 : α22} {v23 : α23} : bd23 (some (v1, v2, v3, v4, v5, v6, v7, v8, v9, v10, v11, v12, v13, v14, v15, v16, v17, v18, v19, v20, v21, v22, v23)) k = k v1 v2 v3 v4 v5 v6 v7 v8 v9 v10 v11 v12 v13 v14 v15 v16 v17 v18 v19 v20 v21 v22 v23 := rfl
def bd24 {α1 α2 α3 α4 α5 α6 α7 α8 α9 α10 α11 α12 α13 α14 α15 α16 α17 α18 α19 α20 α21 α22 α23 α24 β : Type} (o : Option (α1 × α2 × α3 × α4 × α5 × α6 × α7 × α8 × α9 × α10 × α11 × α12 × α13 × α14 × α15 × α16 × α17 × α18 × α19 × α20 × α21 × α22 × α23 × α24)) (k : α1 → α2 → α3 → α4 → α5 → α6 → α7 → α8 → α9 → α10 → α11 → α12 → α13 → α14 → α15 → α16 → α17 → α18 → α19 → α20 → α21 → α22 → α23 → α24 → Option β) : Option β := match o with | none => none | some q => k q.1 q.2.1 q.2.2.1 q.2.2.2.1 q.2.2.2.2.1 q.2.2.2.2.2.1 q.2.2.2.2.2.2.1 q.2.2.2.2.2.2.2.1 q.2.2.2.2.2.2.2.2.1 q.2.2.2.2.2.2.2.2.2.1 q.2.2.2.2.2.2.2.2.2.2.1 q.2.2.2.2.2.2.2.2.2.2.2.1 q.2.2.2.2.2.2.2.2.2.2.2.2.1 q.2.2.2.2.2.2.2.2.2.2.2.2.2.1 q.2.2.2.2.2.2.2.2.2.2.2.2.2.2.1 q.2.2.2.2.2.2.2.2.2.2.2.2.2.2.2.1 q.2.2.2.2.2.2.2.2.2.2.2.2.2.2.2.2.1 q.2.2.2.2.2.2.2.2.2.2.2.2.2.2.2.2.2.1 q.2.2.2.2.2.2.2.2.2.2.2.2.2.2.2.2.2.2.1 q.2.2.2.2.2.2.2.2.2.2.2.2.2.2.2.2.2.2.2.1 q.2.2.2.2.2.2.2.2.2.2.2.2.2.2.2.2.2.2.2.2.1 q.2.2.2.2.2.2.2.2.2.2.2.2.2.2.2.2.2.2.2.2.2.1 q.2.2.2.2.2.2.2.2.2.2.2.2.2.2.2.2.2.2.2.2.2.2.1 q.2.2.2.2.2.2.2.2.2.2.2.2.2.2.2.2.2.2.2.2.2.2.2
theorem bd24_el {α1 α2 α3 α4 α5 α6 α7 α8 α9 α10 α11 α12 α13 α14 α15 α16 α17 α18 α19 α20 α21 α22 α23 α24 β : Type} {o : Option (α1 × α2 × α3 × α4 × α5 × α6 × α7 × α8 × α9 × α10 × α11 × α12 × α13 × α14 × α15 × α16 × α17 × α18 × α19 × α20 × α21 × α22 × α23 × α24)} {k : α1 → α2 → α3 → α4 → α5 → α6 → α7 → α8 → α9 → α10 → α11 → α12 → α13 → α14 → α15 → α16 → α17 → α18 → α19 → α20 → α21 → α22 → α23 → α24 → Option β} {r : β} (h : bd24 o k = some r) : ∃ v1 v2 v3 v4 v5 v6 v7 v8 v9 v10 v11 v12 v13 v14 v15 v16 v17 v18 v19 v20 v21 v22 v23 v24, o = some (v1, v2, v3, v4, v5, v6, v7, v8, v9, v10, v11, v12, v13, v14, v15, v16, v17, v18, v19, v20, v21, v22, v23, v24) ∧ k v1 v2 v3 v4 v5 v6 v7 v8 v9 v10 v11 v12 v13 v14 v15 v16 v17 v18 v19 v20 v21 v22 v23 v24 = some r := by
  cases o with
  | none => cases h
  | some q => exact ⟨_, _, _, _, _, _, _, _, _, _, _, _, _, _, _, _, _, _, _, _, _, _, _, _, rfl, h⟩
theorem bd24_s {α1 α2 α3 α4 α5 α6 α7 α8 α9 α10 α11 α12 α13 α14 α15 α16 α17 α18 α19 α20 α21 α22 α23 α24 β : Type} {k : α1 → α2 → α3 → α4 → α5 → α6 → α7 → α8 → α9 → α10 → α11 → α12 → α13 → α14 → α15 → α16 → α17 → α18 → α19 → α20 → α21 → α22 → α23 → α24 → Option β} {v1 : α1} {v2 : α2} {v3 : α3} {v4 : α4} {v5 : α5} {v6 : α6} {v7 : α7} {v8 : α8} {v9 : α9} {v10 : α10} {v11 : α11} {v12 : α12} {v13 : α13} {v14 : α14} {v15 : α15} {v16 : α16} {v17 : α17} {v18 : α18} {v19 : α19} {v20 : α20} {v21 : α21} {v22 : α22} {v23 : α23} {v24 : α24} : bd24 (some (v1, v2, v3, v4, v5, v6, v7, v8, v9, v10, v11, v12, v13, v14, v15, v16, v17, v18, v19, v20, v21, v22, v23, v24)) k = k v1 v2 v3 v4 v5 v6 v7 v8 v9 v10 v11 v12 v13 v14 v15 v16 v17 v18 v19 v20 v21 v22 v23 v24 := rfl
def bd25 {α1 α2 α3 α4 α5 α6 α7 α8 α9 α10 α11 α12 α13 α14 α15 α16 α17 α18 α19 α20 α21 α22 α23 α24 α25 β : Type} (o : Option (α1 × α2 × α3 × α4 × α5 × α6 × α7 × α8 × α9 × α10 × α11 × α12 × α13 × α14 × α15 × α16 × α17 × α18 × α19 × α20 × α21 × α22 × α23 × α24 × α25)) (k : α1 → α2 → α3 → α4 → α5 → α6 → α7 → α8 → α9 → α10 → α11 → α12 → α13 → α14 → α15 → α16 → α17 → α18 → α19 → α20 → α21 → α22 → α23 → α24 → α25 → Option β) : Option β := match o with | none => none | some q => k q.1 q.2.1 q.2.2.1 q.2.2.2.1 q.2.2.2.2.1 q.2.2.2.2.2.1 q.2.2.2.2.2.2.1 q.2.2.2.2.2.2.2.1 q.2.2.2.2.2.2.2.2.1 q.2.2.2.2.2.2.2.2.2.1 q.2.2.2.2.2.2.2.2.2.2.1 q.2.2.2.2.2.2.2.2.2.2.2.1 q.2.2.2.2.2.2.2.2.2.2.2.2.1 q.2.2.2.2.2.2.2.2.2.2.2.2.2.1 q.2.2.2.2.2.2.2.2.2.2.2.2.2.2.1 q.2.2.2.2.2.2.2.2.2.2.2.2.2.2.2.1 q.2.2.2.2.2.2.2.2.2.2.2.2.2.2.2.2.1 q.2.2.2.2.2.2.2.2.2.2.2.2.2.2.2.2.2.1 q.2.2.2.2.2.2.2.2.2.2.2.2.2.2.2.2.2.2.1 q.2.2.2.2.2.2.2.2.2.2.2.2.2.2.2.2.2.2.2.1 q.2.2.2.2.2.2.2.2.2.2.2.2.2.2.2.2.2.2.2.2.1 q.2.2.2.2.2.2.2.2.2.2.2.2.2.2.2.2.2.2.2.2.2.1 q.2.2.2.2.2.2.2.2.2.2.2.2.2.2.2.2.2.2.2.2.2.2.1 q.2.2.2.2.2.2.2.2.2.2.2.2.2.2.2.2.2.2.2.2.2.2.2.1 q.2.2.2.2.2.2.2.2.2.2.2.2.2.2.2.2.2.2.2.2.2.2.2.2
theorem bd25_el {α1 α2 α3 α4 α5 α6 α7 α8 α9 α10 α11 α12 α13 α14 α15 α16 α17 α18 α19 α20 α21 α22 α23 α24 α25 β : Type} {o : Option (α1 × α2 × α3 × α4 × α5 × α6 × α7 × α8 × α9 × α10 × α11 × α12 × α13 × α14 × α15 × α16 × α17 × α18 × α19 × α20 × α21 × α22 × α23 × α24 × α25)} {k : α1 → α2 → α3 → α4 → α5 → α6 → α7 → α8 → α9 → α10 → α11 → α12 → α13 → α14 → α15 → α16 → α17 → α18 → α19 → α20 → α21 → α22 → α23 → α24 → α25 → Option β} {r : β} (h : bd25 o k = some r) : ∃ v1 v2 v3 v4 v5 v6 v7 v8 v9 v10 v11 v12 v13 v14 v15 v16 v17 v18 v19 v20 v21 v22 v23 v24 v25, o = some (v1, v2, v3, v4, v5, v6, v7, v8, v9, v10, v11, v12, v13, v14, v15, v16, v17, v18, v19, v20, v21, v22, v23, v24, v25) ∧ k v1 v2 v3 v4 v5 v6 v7 v8 v9 v10 v11 v12 v13 v14 v15 v16 v17 v18 v19 v20 v21 v22 v23 v24 v25 = some r := by
  cases o with
  | none => cases h
  | some q => exact ⟨_, _, _, _, _, _, _, _, _, _, _, _, _, _, _, _, _, _, _, _, _, _, _, _, _, rfl, h⟩
theorem bd25_s {α1 α2 α3 α4 α5 α6 α7 α8 α9 α10 α11 α12 α13 α14 α15 α16 α17 α18 α19 α20 α21 α22 α23 α24 α25 β : Type} {k : α1 → α2 → α3 → α4 → α5 → α6 → α7 → α8 → α9 → α10 → α11 → α12 → α13 → α14 → α15 → α16 → α17 → α18 → α19 → α20 → α21 → α22 → α23 → α24 → α25 → Option β} {v1 : α1} {v2 : α2} {v3 : α3} {v4 : α4} {v5 : α5} {v6 : α6} {v7 : α7} {v8 : α8} {v9 : α9} {v10 : α10} {v11 : α11} {v12 : α12} {v13 : α13} {v14 : α14} {v15 : α15} {v16 : α16} {v17 : α17} {v18 : α18} {v19 : α19} {v20 : α20} {v21 : α21} {v22 : α22} {v23 : α23} {v24 : α24} {v25 : α25} : bd25 (some (v1, v2, v3, v4, v5, v6, v7, v8, v9, v10, v11, v12, v13, v14, v15, v16, v17, v18, v19, v20, v21, v22, v23, v24, v25)) k = k v1 v2 v3 v4 v5 v6 v7 v8 v9 v10 v11 v12 v13 v14 v15 v16 v17 v18 v19 v20 v21 v22 v23 v24 v25 := rfl
def bd26 {α1 α2 α3 α4 α5 α6 α7 α8 α9 α10 α11 α12 α13 α14 α15 α16 α17 α18 α19 α20 α21 α22 α23 α24 α25 α26 β : Type} (o : Option (α1 × α2 × α3 × α4 × α5 × α6 × α7 × α8 × α9 × α10 × α11 × α12 × α13 × α14 × α15 × α16 × α17 × α18 × α19 × α20 × α21 × α22 × α23 × α24 × α25 × α26)) (k : α1 → α2 → α3 → α4 → α5 → α6 → α7 → α8 → α9 → α10 → α11 → α12 → α13 → α14 → α15 → α16 → α17 → α18 → α19 → α20 → α21 → α22 → α23 → α24 → α25 → α26 → Option β) : Option β := match o with | none => none | some q => k q.1 q.2.1 q.2.2.1 q.2.2.2.1 q.2.2.2.2.1 q.2.2.2.2.2.1 q.2.2.2.2.2.2.1 q.2.2.2.2.2.2.2.1 q.2.2.2.2.2.2.2.2.1 q.2.2.2.2.2.2.2.2.2.1 q.2.2.2.2.2.2.2.2.2.2.1 q.2.2.2.2.2.2.2.2.2.2.2.1 q.2.2.2.2.2.2.2.2.2.2.2.2.1 q.2.2.2.2.2.2.2.2.2.2.2.2.2.1 q.2.2.2.2.2.2.2.2.2.2.2.2.2.2.1 q.2.2.2.2.2.2.2.2.2.2.2.2.2.2.2.1 q.2.2.2.2.2.2.2.2.2.2.2.2.2.2.2.2.1 q.2.2.2.2.2.2.2.2.2.2.2.2.2.2.2.2.2.1 q.2.2.2.2.2.2.2.2.2.2.2.2.2.2.2.2.2.2.1 q.2.2.2.2.2.2.2.2.2.2.2.2.2.2.2.2.2.2.2.1 q.2.2.2.2.2.2.2.2.2.2.2.2.2.2.2.2.2.2.2.2.1 q.2.2.2.2.2.2.2.2.2.2.2.2.2.2.2.2.2.2.2.2.2.1 q.2.2.2.2.2.2.2.2.2.2.2.2.2.2.2.2.2.2.2.2.2.2.1 q.2.2.2.2.2.2.2.2.2.2.2.2.2.2.2.2.2.2.2.2.2.2.2.1 q.2.2.2.2.2.2.2.2.2.2.2.2.2.2.2.2.2.2.2.2.2.2.2.2.1 q.2.2.2.2.2.2.2.2.2.2.2.2.2.2.2.2.2.2.2.2.2.2.2.2.2
theorem bd26_el {α1 α2 α3 α4 α5 α6 α7 α8 α9 α10 α11 α12 α13 α14 α15 α16 α17 α18 α19 α20 α21 α22 α23 α24 α25 α26 β : Type} {o : Option (α1 × α2 × α3 × α4 × α5 × α6 × α7 × α8 × α9 × α10 × α11 × α12 × α13 × α14 × α15 × α16 × α17 × α18 × α19 × α20 × α21 × α22 × α23 × α24 × α25 × α26)} {k : α1 → α2 → α3 → α4 → α5 → α6 → α7 → α8 → α9 → α10 → α11 → α12 → α13 → α14 → α15 → α16 → α17 → α18 → α19 → α20 → α21 → α22 → α23 → α24 → α25 → α26 → Option β} {r : β} (h : bd26 o k = some r) : ∃ v1 v2 v3 v4 v5 v6 v7 v8 v9 v10 v11 v12 v13 v14 v15 v16 v17 v18 v19 v20 v21 v22 v23 v24 v25 v26, o = some (v1, v2, v3, v4, v5, v6, v7, v8, v9, v10, v11, v12, v13, v14, v15, v16, v17, v18, v19, v20, v21, v22, v23, v24, v25, v26) ∧ k v1 v2 v3 v4 v5 v6 v7 v8 v9 v10 v11 v12 v13 v14 v15 v16 v17 v18 v19 v20 v21 v22 v23 v24 v25 v26 = some r := by
  cases o with
  | none => cases h
  | some q => exact ⟨_, _, _, _, _, _, _, _, _, _, _, _, _, _, _, _, _, _, _, _, _, _, _, _, _, _, rfl, h⟩
theorem bd26_s {α1 α2 α3 α4 α5 α6 α7 α8 α9 α10 α11 α12 α13 α14 α15 α16 α17 α18 α19 α20 α21 α22 α23 α24 α25 α26 β : Type} {k : α1 → α2 → α3 → α4 → α5 → α6 → α7 → α8 → α9 → α10 → α11 → α12 → α13 → α14 → α15 → α16 → α17 → α18 → α19 → α20 → α21 → α22 → α23 → α24 → α25 → α26 → Option β} {v1 : α1} {v2 : α2} {v3 : α3} {v4 : α4} {v5 : α5} {v6 : α6} {v7 : α7} {v8 : α8} {v9 : α9} {v10 : α10} {v11 : α11} {v12 : α12} {v13 : α13} {v14 : α14} {v15 : α15} {v16 : α16} {v17 : α17} {v18 : α18} {v19 : α19} {v20 : α20} {v21 : α21} {v22 : α22} {v23 : α23} {v24 : α24} {v25 : α25} {v26 : α26} : bd26 (some (v1, v2, v3, v4, v5, v6, v7, v8, v9, v10, v11, v12, v13, v14, v15, v16, v17, v18, v19, v20, v21, v22, v23, v24, v25, v26)) k = k v1 v2 v3 v4 v5 v6 v7 v8 v9 v10 v11 v12 v13 v14 v15 v16 v17 v18 v19 v20 v21 v22 v23 v24 v25 v26 := rfl
def bd27 {α1 α2 α3 α4 α5 α6 α7 α8 α9 α10 α11 α12 α13 α14 α15 α16 α17 α18 α19 α20 α21 α22 α23 α24 α25 α26 α27 β : Type} (o : Option (α1 × α2 × α3 × α4 × α5 × α6 × α7 × α8 × α9 × α10 × α11 × α12 × α13 × α14 × α15 × α16 × α17 × α18 × α19 × α20 × α21 × α22 × α23 × α24 × α25 × α26 × α27)) (k : α1 → α2 → α3 → α4 → α5 → α6 → α7 → α8 → α9 → α10 → α11 → α12 → α13 → α14 → α15 → α16 → α17 → α18 → α19 → α20 → α21 → α22 → α23 → α24 → α25 → α26 → α27 → Option β) : Option β := match o with | none => none | some q => k q.1 q.2.1 q.2.2.1 q.2.2.2.1 q.2.2.2.2.1 q.2.2.2.2.2.1 q.2.2.2.2.2.2.1 q.2.2.2.2.2.2.2.1 q.2.2.2.2.2.2.2.2.1 q.2.2.2.2.2.2.2.2.2.1 q.2.2.2.2.2.2.2.2.2.2.1 q.2.2.2.2.2.2.2.2.2.2.2.1 q.2.2.2.2.2.2.2.2.2.2.2.2.1 q.2.2.2.2.2.2.2.2.2.2.2.2.2.1 q.2.2.2.2.2.2.2.2.2.2.2.2.2.2.1 q.2.2.2.2.2.2.2.2.2.2.2.2.2.2.2.1 q.2.2.2.2.2.2.2.2.2.2.2.2.2.2.2.2.1 q.2.2.2.2.2.2.2.2.2.2.2.2.2.2.2.2.2.1 q.2.2.2.2.2.2.2.2.2.2.2.2.2.2.2.2.2.2.1 q.2.2.2.2.2.2.2.2.2.2.2.2.2.2.2.2.2.2.2.1 q.2.2.2.2.2.2.2.2.2.2.2.2.2.2.2.2.2.2.2.2.1 q.2.2.2.2.2.2.2.2.2.2.2.2.2.2.2.2.2.2.2.2.2.1 q.2.2.2.2.2.2.2.2.2.2.2.2.2.2.2.2.2.2.2.2.2.2.1 q.2.2.2.2.2.2.2.2.2.2.2.2.2.2.2.2.2.2.2.2.2.2.2.1 q.2.2.2.2.2.2.2.2.2.2.2.2.2.2.2.2.2.2.2.2.2.2.2.2.1 q.2.2.2.2.2.2.2.2.2.2.2.2.2.2.2.2.2.2.2.2.2.2.2.2.2.1 q.2.2.2.2.2.2.2.2.2.2.2.2.2.2.2.2.2.2.2.2.2.2.2.2.2.2
theorem bd27_el {α1 α2 α3 α4 α5 α6 α7 α8 α9 α10 α11 α12 α13 α14 α15 α16 α17 α18 α19 α20 α21 α22 α23 α24 α25 α26 α27 β : Type} {o : Option (α1 × α2 × α3 × α4 × α5 × α6 × α7 × α8 × α9 × α10 × α11 × α12 × α13 × α14 × α15 × α16 × α17 × α18 × α19 × α20 × α21 × α22 × α23 × α24 × α25 × α26 × α27)} {k : α1 → α2 → α3 → α4 → α5 → α6 → α7 → α8 → α9 → α10 → α11 → α12 → α13 → α14 → α15 → α16 → α17 → α18 → α19 → α20 → α21 → α22 → α23 → α24 → α25 → α26 → α27 → Option β} {r : β} (h : bd27 o k = some r) : ∃ v1 v2 v3 v4 v5 v6 v7 v8 v9 v10 v11 v12 v13 v14 v15 v16 v17 v18 v19 v20 v21 v22 v23 v24 v25 v26 v27, o = some (v1, v2, v3, v4, v5, v6, v7, v8, v9, v10, v11, v12, v13, v14, v15, v16, v17, v18, v19, v20, v21, v22, v23, v24, v25, v26, v27) ∧ k v1 v2 v3 v4 v5 v6 v7 v8 v9 v10 v11 v12 v13 v14 v15 v16 v17 v18 v19 v20 v21 v22 v23 v24 v25 v26 v27 = some r := by
  cases o with
  | none => cases h
  | some q => exact ⟨_, _, _, _, _, _, _, _, _, _, _, _, _, _, _, _, _, _, _, _, _, _, _, _, _, _, _, rfl, h⟩
theorem bd27_s {α1 α2 α3 α4 α5 α6 α7 α8 α9 α10 α11 α12 α13 α14 α15 α16 α17 α18 α19 α20 α21 α22 α23 α24 α25 α26 α27 β : Type} {k : α1 → α2 → α3 → α4 → α5 → α6 → α7 → α8 → α9 → α10 → α11 → α12 → α13 → α14 → α15 → α16 → α17 → α18 → α19 → α20 → α21 → α22 → α23 → α24 → α25 → α26 → α27 → Option β} {v1 : α1} {v2 : α2} {v3 : α3} {v4 : α4} {v5 : α5} {v6 : α6} {v7 : α7} {v8 : α8} {v9 : α9} {v10 : α10} {v11 : α11} {v12 : α12} {v13 : α13} {v14 : α14} {v15 : α15} {v16 : α16} {v17 : α17} {v18 : α18} {v19 : α19} {v20 : α20} {v21 : α21} {v22 : α22} {v23 : α23} {v24 : α24} {v25 : α25} {v26 : α26} {v27 : α27} : bd27 (some (v1, v2, v3, v4, v5, v6, v7, v8, v9, v10, v11, v12, v13, v14, v15, v16, v17, v18, v19, v20, v21, v22, v23, v24, v25, v26, v27)) k = k v1 v2 v3 v4 v5 v6 v7 v8 v9 v10 v11 v12 v13 v14 v15 v16 v17 v18 v19 v20 v21 v22 v23 v24 v25 v26 v27 := rfl
def bd28 {α1 α2 α3 α4 α5 α6 α7 α8 α9 α10 α11 α12 α13 α14 α15 α16 α17 α18 α19 α20 α21 α22 α23 α24 α25 α26 α27 α28 β : Type} (o : Option (α1 × α2 × α3 × α4 × α5 × α6 × α7 × α8 × α9 × α10 × α11 × α12 × α13 × α14 × α15 × α16 × α17 × α18 × α19 × α20 × α21 × α22 × α23 × α24 × α25 × α26 × α27 × α28)) (k : α1 → α2 → α3 → α4 → α5 → α6 → α7 → α8 → α9 → α10 → α11 → α12 → α13 → α14 → α15 → α16 → α17 → α18 → α19 → α20 → α21 → α22 → α23 → α24 → α25 → α26 → α27 → α28 → Option β) : Option β := match o with | none => none | some q => k q.1 q.2.1 q.2.2.1 q.2.2.2.1 q.2.2.2.2.1 q.2.2.2.2.2.1 q.2.2.2.2.2.2.1 q.2.2.2.2.2.2.2.1 q.2.2.2.2.2.2.2.2.1 q.2.2.2.2.2.2.2.2.2.1 q.2.2.2.2.2.2.2.2.2.2.1 q.2.2.2.2.2.2.2.2.2.2.2.1 q.2.2.2.2.2.2.2.2.2.2.2.2.1 q.2.2.2.2.2.2.2.2.2.2.2.2.2.1 q.2.2.2.2.2.2.2.2.2.2.2.2.2.2.1 q.2.2.2.2.2.2.2.2.2.2.2.2.2.2.2.1 q.2.2.2.2.2.2.2.2.2.2.2.2.2.2.2.2.1 q.2.2.2.2.2.2.2.2.2.2.2.2.2.2.2.2.2.1 q.2.2.2.2.2.2.2.2.2.2.2.2.2.2.2.2.2.2.1 q.2.2.2.2.2.2.2.2.2.2.2.2.2.2.2.2.2.2.2.1 q.2.2.2.2.2.2.2.2.2.2.2.2.2.2.2.2.2.2.2.2.1 q.2.2.2.2.2.2.2.2.2.2.2.2.2.2.2.2.2.2.2.2.2.1 q.2.2.2.2.2.2.2.2.2.2.2.2.2.2.2.2.2.2.2.2.2.2.1 q.2.2.2.2.2.2.2.2.2.2.2.2.2.2.2.2.2.2.2.2.2.2.2.1 q.2.2.2.2.2.2.2.2.2.2.2.2.2.2.2.2.2.2.2.2.2.2.2.2.1 q.2.2.2.2.2.2.2.2.2.2.2.2.2.2.2.2.2.2.2.2.2.2.2.2.2.1 q.2.2.2.2.2.2.2.2.2.2.2.2.2.2.2.2.2.2.2.2.2.2.2.2.2.2.1 q.2.2.2.2.2.2.2.2.2.2.2.2.2.2.2.2.2.2.2.2.2.2.2.2.2.2.2
theorem bd28_el {α1 α2 α3 α4 α5 α6 α7 α8 α9 α10 α11 α12 α13 α14 α15 α16 α17 α18 α19 α20 α21 α22 α23 α24 α25 α26 α27 α28 β : Type} {o : Option (α1 × α2 × α3 × α4 × α5 × α6 × α7 × α8 × α9 × α10 × α11 × α12 × α13 × α14 × α15 × α16 × α17 × α18 × α19 × α20 × α21 × α22 × α23 × α24 × α25 × α26 × α27 × α28)} {k : α1 → α2 → α3 → α4 → α5 → α6 → α7 → α8 → α9 → α10 → α11 → α12 → α13 → α14 → α15 → α16 → α17 → α18 → α19 → α20 → α21 → α22 → α23 → α24 → α25 → α26 → α27 → α28 → Option β} {r : β} (h : bd28 o k = some r) : ∃ v1 v2 v3 v4 v5 v6 v7 v8 v9 v10 v11 v12 v13 v14 v15 v16 v17 v18 v19 v20 v21 v22 v23 v24 v25 v26 v27 v28, o = some (v1, v2, v3, v4, v5, v6, v7, v8, v9, v10, v11, v12, v13, v14, v15, v16, v17, v18, v19, v20, v21, v22, v23, v24, v25, v26, v27, v28) ∧ k v1 v2 v3 v4 v5 v6 v7 v8 v9 v10 v11 v12 v13 v14 v15 v16 v17 v18 v19 v20 v21 v22 v23 v24 v25 v26 v27 v28 = some r := by
  cases o with
  | none => cases h
  | some q => exact ⟨_, _, _, _, _, _, _, _, _, _, _, _, _, _, _, _, _, _, _, _, _, _, _, _, _, _, _, _, rfl, h⟩
theorem bd28_s {α1 α2 α3 α4 α5 α6 α7 α8 α9 α10 α11 α12 α13 α14 α15 α16 α17 α18 α19 α20 α21 α22 α23 α24 α25 α26 α27 α28 β : Type} {k : α1 → α2 → α3 → α4 → α5 → α6 → α7 → α8 → α9 → α10 → α11 → α12 → α13 → α14 → α15 → α16 → α17 → α18 → α19 → α20 → α21 → α22 → α23 → α24 → α25 → α26 → α27 → α28 → Option β} {v1 : α1} {v2 : α2} {v3 : α3} {v4 : α4} {v5 : α5} {v6 : α6} {v7 : α7} {v8 : α8} {v9 : α9} {v10 : α10} {v11 : α11} {v12 : α12} {v13 : α13} {v14 : α14} {v15 : α15} {v16 : α16} {v17 : α17} {v18 : α18} {v19 : α19} {v20 : α20} {v21 : α21} {v22 : α22} {v23 : α23} {v24 : α24} {v25 : α25} {v26 : α26} {v27 : α27} {v28 : α28} : bd28 (some (v1, v2, v3, v4, v5, v6, v7, v8, v9, v10, v11, v12, v13, v14, v15, v16, v17, v18, v19, v20, v21, v22, v23, v24, v25, v26, v27, v28)) k = k v1 v2 v3 v4 v5 v6 v7 v8 v9 v10 v11 v12 v13 v14 v15 v16 v17 v18 v19 v20 v21 v22 v23 v24 v25 v26 v27 v28 := rfl
def bd29 {α1 α2 α3 α4 α5 α6 α7 α8 α9 α10 α11 α12 α13 α14 α15 α16 α17 α18 α19 α20 α21 α22 α23 α24 α25 α26 α27 α28 α29 β : Type} (o : Option (α1 × α2 × α3 × α4 × α5 × α6 × α7 × α8 × α9 × α10 × α11 × α12 × α13 × α14 × α15 × α16 × α17 × α18 × α19 × α20 × α21 × α22 × α23 × α24 × α25 × α26 × α27 × α28 × α29)) (k : α1 → α2 → α3 → α4 → α5 → α6 → α7 → α8 → α9 → α10 → α11 → α12 → α13 → α14 → α15 → α16 → α17 → α18 → α19 → α20 → α21 → α22 → α23 → α24 → α25 → α26 → α27 → α28 → α29 → Option β) : Option β := match o with | none => none | some q => k q.1 q.2.1 q.2.2.1 q.2.2.2.1 q.2.2.2.2.1 q.2.2.2.2.2.1 q.2.2.2.2.2.2.1 q.2.2.2.2.2.2.2.1 q.2.2.2.2.2.2.2.2.1 q.2.2.2.2.2.2.2.2.2.1 q.2.2.2.2.2.2.2.2.2.2.1 q.2.2.2.2.2.2.2.2.2.2.2.1 q.2.2.2.2.2.2.2.2.2.2.2.2.1 q.2.2.2.2.2.2.2.2.2.2.2.2.2.1 q.2.2.2.2.2.2.2.2.2.2.2.2.2.2.1 q.2.2.2.2.2.2.2.2.2.2.2.2.2.2.2.1 q.2.2.2.2.2.2.2.2.2.2.2.2.2.2.2.2.1 q.2.2.2.2.2.2.2.2.2.2.2.2.2.2.2.2.2.1 q.2.2.2.2.2.2.2.2.2.2.2.2.2.2.2.2.2.2.1 q.2.2.2.2.2.2.2.2.2.2.2.2.2.2.2.2.2.2.2.1 q.2.2.2.2.2.2.2.2.2.2.2.2.2.2.2.2.2.2.2.2.1 q.2.2.2.2.2.2.2.2.2.2.2.2.2.2.2.2.2.2.2.2.2.1 q.2.2.2.2.2.2.2.2.2.2.2.2.2.2.2.2.2.2.2.2.2.2.1 q.2.2.2.2.2.2.2.2.2.2.2.2.2.2.2.2.2.2.2.2.2.2.2.1 q.2.2.2.2.2.2.2.2.2.2.2.2.2.2.2.2.2.2.2.2.2.2.2.2.1 q.2.2.2.2.2.2.2.2.2.2.2.2.2.2.2.2.2.2.2.2.2.2.2.2.2.1 q.2.2.2.2.2.2.2.2.2.2.2.2.2.2.2.2.2.2.2.2.2.2.2.2.2.2.1 q.2.2.2.2.2.2.2.2.2.2.2.2.2.2.2.2.2.2.2.2.2.2.2.2.2.2.2.1 q.2.2.2.2.2.2.2.2.2.2.2.2.2.2.2.2.2.2.2.2.2.2.2.2.2.2.2.2
theorem bd29_el {α1 α2 α3 α4 α5 α6 α7 α8 α9 α10 α11 α12 α13 α14 α15 α16 α17 α18 α19 α20 α21 α22 α23 α24 α25 α26 α27 α28 α29 β : Type} {o : Option (α1 × α2 × α3 × α4 × α5 × α6 × α7 × α8 × α9 × α10 × α11 × α12 × α13 × α14 × α15 × α16 × α17 × α18 × α19 × α20 × α21 × α22 × α23 × α24 × α25 × α26 × α27 × α28 × α29)} {k : α1 → α2 → α3 → α4 → α5 → α6 → α7 → α8 → α9 → α10 → α11 → α12 → α13 → α14 → α15 → α16 → α17 → α18 → α19 → α20 → α21 → α22 → α23 → α24 → α25 → α26 → α27 → α28 → α29 → Option β} {r : β} (h : bd29 o k = some r) : ∃ v1 v2 v3 v4 v5 v6 v7 v8 v9 v10 v11 v12 v13 v14 v15 v16 v17 v18 v19 v20 v21 v22 v23 v24 v25 v26 v27 v28 v29, o = some (v1, v2, v3, v4, v5, v6, v7, v8, v9, v10, v11, v12, v13, v14, v15, v16, v17, v18, v19, v20, v21, v22, v23, v24, v25, v26, v27, v28, v29) ∧ k v1 v2 v3 v4 v5 v6 v7 v8 v9 v10 v11 v12 v13 v14 v15 v16 v17 v18 v19 v20 v21 v22 v23 v24 v25 v26 v27 v28 v29 = some r := by
  cases o with
  | none => cases h
  | some q => exact ⟨_, _, _, _, _, _, _, _, _, _, _, _, _, _, _, _, _, _, _, _, _, _, _, _, _, _, _, _, _, rfl, h⟩
theorem bd29_s {α1 α2 α3 α4 α5 α6 α7 α8 α9 α10 α11 α12 α13 α14 α15 α16 α17 α18 α19 α20 α21 α22 α23 α24 α25 α26 α27 α28 α29 β : Type} {k : α1 → α2 → α3 → α4 → α5 → α6 → α7 → α8 → α9 → α10 → α11 → α12 → α13 → α14 → α15 → α16 → α17 → α18 → α19 → α20 → α21 → α22 → α23 → α24 → α25 → α26 → α27 → α28 → α29 → Option β} {v1 : α1} {v2 : α2} {v3 : α3} {v4 : α4} {v5 : α5} {v6 : α6} {v7 : α7} {v8 : α8} {v9 : α9} {v10 : α10} {v11 : α11} {v12 : α12} {v13 : α13} {v14 : α14} {v15 : α15} {v16 : α16} {v17 : α17} {v18 : α18} {v19 : α19} {v20 : α20} {v21 : α21} {v22 : α22} {v23 : α23} {v24 : α24} {v25 : α25} {v26 : α26} {v27 : α27} {v28 : α28} {v29 : α29} : bd29 (some (v1, v2, v3, v4, v5, v6, v7, v8, v9, v10, v11, v12, v13, v14, v15, v16, v17, v18, v19, v20, v21, v22, v23, v24, v25, v26, v27, v28, v29)) k = k v1 v2 v3 v4 v5 v6 v7 v8 v9 v10 v11 v12 v13 v14 v15 v16 v17 v18 v19 v20 v21 v22 v23 v24 v25 v26 v27 v28 v29 := rfl
def bd30 {α1 α2 α3 α4 α5 α6 α7 α8 α9 α10 α11 α12 α13 α14 α15 α16 α17 α18 α19 α20 α21 α22 α23 α24 α25 α26 α27 α28 α29 α30 β : Type} (o : Option (α1 × α2 × α3 × α4 × α5 × α6 × α7 × α8 × α9 × α10 × α11 × α12 × α13 × α14 × α15 × α16 × α17 × α18 × α19 × α20 × α21 × α22 × α23 × α24 × α25 × α26 × α27 × α28 × α29 × α30)) (k : α1 → α2 → α3 → α4 → α5 → α6 → α7 → α8 → α9 → α10 → α11 → α12 → α13 → α14 → α15 → α16 → α17 → α18 → α19 → α20 → α21 → α22 → α23 → α24 → α25 → α26 → α27 → α28 → α29 → α30 → Option β) : Option β := match o with | none => none | some q => k q.1 q.2.1 q.2.2.1 q.2.2.2.1 q.2.2.2.2.1 q.2.2.2.2.2.1 q.2.2.2.2.2.2.1 q.2.2.2.2.2.2.2.1 q.2.2.2.2.2.2.2.2.1 q.2.2.2.2.2.2.2.2.2.1 q.2.2.2.2.2.2.2.2.2.2.1 q.2.2.2.2.2.2.2.2.2.2.2.1 q.2.2.2.2.2.2.2.2.2.2.2.2.1 q.2.2.2.2.2.2.2.2.2.2.2.2.2.1 q.2.2.2.2.2.2.2.2.2.2.2.2.2.2.1 q.2.2.2.2.2.2.2.2.2.2.2.2.2.2.2.1 q.2.2.2.2.2.2.2.2.2.2.2.2.2.2.2.2.1 q.2.2.2.2.2.2.2.2.2.2.2.2.2.2.2.2.2.1 q.2.2.2.2.2.2.2.2.2.2.2.2.2.2.2.2.2.2.1 q.2.2.2.2.2.2.2.2.2.2.2.2.2.2.2.2.2.2.2.1 q.2.2.2.2.2.2.2.2.2.2.2.2.2.2.2.2.2.2.2.2.1 q.2.2.2.2.2.2.2.2.2.2.2.2.2.2.2.2.2.2.2.2.2.1 q.2.2.2.2.2.2.2.2.2.2.2.2.2.2.2.2.2.2.2.2.2.2.1 q.2.2.2.2.2.2.2.2.2.2.2.2.2.2.2.2.2.2.2.2.2.2.2.1 q.2.2.2.2.2.2.2.2.2.2.2.2.2.2.2.2.2.2.2.2.2.2.2.2.1 q.2.2.2.2.2.2.2.2.2.2.2.2.2.2.2.2.2.2.2.2.2.2.2.2.2.1 q.2.2.2.2.2.2.2.2.2.2.2.2.2.2.2.2.2.2.2.2.2.2.2.2.2.2.1 q.2.2.2.2.2.2.2.2.2.2.2.2.2.2.2.2.2.2.2.2.2.2.2.2.2.2.2.1 q.2.2.2.2.2.2.2.2.2.2.2.2.2.2.2.2.2.2.2.2.2.2.2.2.2.2.2.2.1 q.2.2.2.2.2.2.2.2.2.2.2.2.2.2.2.2.2.2.2.2.2.2.2.2.2.2.2.2.2
theorem bd30_el {α1 α2 α3 α4 α5 α6 α7 α8 α9 α10 α11 α12 α13 α14 α15 α16 α17 α18 α19 α20 α21 α22 α23 α24 α25 α26 α27 α28 α29 α30 β : Type} {o : Option (α1 × α2 × α3 × α4 × α5 × α6 × α7 × α8 × α9 × α10 × α11 × α12 × α13 × α14 × α15 × α16 × α17 × α18 × α19 × α20 × α21 × α22 × α23 × α24 × α25 × α26 × α27 × α28 × α29 × α30)} {k : α1 → α2 → α3 → α4 → α5 → α6 → α7 → α8 → α9 → α10 → α11 → α12 → α13 → α14 → α15 → α16 → α17 → α18 → α19 → α20 → α21 → α22 → α23 → α24 → α25 → α26 → α27 → α28 → α29 → α30 → Option β} {r : β} (h : bd30 o k = some r) : ∃ v1 v2 v3 v4 v5 v6 v7 v8 v9 v10 v11 v12 v13 v14 v15 v16 v17 v18 v19 v20 v21 v22 v23 v24 v25 v26 v27 v28 v29 v30, o = some (v1, v2, v3, v4, v5, v6, v7, v8, v9, v10, v11, v12, v13, v14, v15, v16, v17, v18, v19, v20, v21, v22, v23, v24, v25, v26, v27, v28, v29, v30) ∧ k v1 v2 v3 v4 v5 v6 v7 v8 v9 v10 v11 v12 v13 v14 v15 v16 v17 v18 v19 v20 v21 v22 v23 v24 v25 v26 v27 v28 v29 v30 = some r := by
  cases o with
  | none => cases h
  | some q => exact ⟨_, _, _, _, _, _, _, _, _, _, _, _, _, _, _, _, _, _, _, _, _, _, _, _, _, _, _, _, _, _, rfl, h⟩
theorem bd30_s {α1 α2 α3 α4 α5 α6 α7 α8 α9 α10 α11 α12 α13 α14 α15 α16 α17 α18 α19 α20 α21 α22 α23 α24 α25 α26 α27 α28 α29 α30 β : Type} {k : α1 → α2 → α3 → α4 → α5 → α6 → α7 → α8 → α9 → α10 → α11 → α12 → α13 → α14 → α15 → α16 → α17 → α18 → α19 → α20 → α21 → α22 → α23 → α24 → α25 → α26 → α27 → α28 → α29 → α30 → Option β} {v1 : α1} {v2 : α2} {v3 : α3} {v4 : α4} {v5 : α5} {v6 : α6} {v7 : α7} {v8 : α8} {v9 : α9} {v10 : α10} {v11 : α11} {v12 : α12} {v13 : α13} {v14 : α14} {v15 : α15} {v16 : α16} {v17 : α17} {v18 : α18} {v19 : α19} {v20 : α20} {v21 : α21} {v22 : α22} {v23 : α23} {v24 : α24} {v25 : α25} {v26 : α26} {v27 : α27} {v28 : α28} {v29 : α29} {v30 : α30} : bd30 (some (v1, v2, v3, v4, v5, v6, v7, v8, v9, v10, v11, v12, v13, v14, v15, v16, v17, v18, v19, v20, v21, v22, v23, v24, v25, v26, v27, v28, v29, v30)) k = k v1 v2 v3 v4 v5 v6 v7 v8 v9 v10 v11 v12 v13 v14 v15 v16 v17 v18 v19 v20 v21 v22 v23 v24 v25 v26 v27 v28 v29 v30 := rfl
theorem x_fits_char {v : Int32} (h : narrow .char (.int v) = .int v) : fits .char (.int v) = true := by
  have e : v.toUInt32.toUInt16.toUInt32.toInt32 = v := Value.int.inj (show Value.int v.toUInt32.toUInt16.toUInt32.toInt32 = Value.int v from h)
  rw [← e, ← lg_i2c_nf]
  exact pk_fc v
theorem arrV_cong {cI : ClassId} {N : Nat} {f g : Nat → Value} (h : ∀ j, j < N → f j = g j) : arrV cI N f = arrV cI N g := by
  unfold arrV
  congr 1
  exact Array.ext (by simp) (fun i h1 h2 => by simp only [Array.getElem_ofFn]; exact h i (by simpa using h1))
theorem x_ne {x : Int32} (k : Int32) (n : Int) (hn : k.toInt = n) (h : ¬ x = k) : ¬ x.toInt = n := fun e => h (Int32.toInt_inj.mp (e.trans hn.symm))
theorem set_mem {ws : va_W} {k : Nat} {x q : Nat × va_E} (h : q ∈ ws.set k x) : q = x ∨ ∃ j : Nat, j ≠ k ∧ ws[j]? = some q := by
  obtain ⟨j, hj⟩ := List.getElem?_of_mem h
  rw [List.getElem?_set] at hj
  by_cases e : k = j
  · rw [if_pos e] at hj
    split at hj
    · exact Or.inl (Option.some.inj hj).symm
    · cases hj
  · rw [if_neg e] at hj
    exact Or.inr ⟨j, fun z => e z.symm, hj⟩
/-- a cell of a world said anew -/
theorem va_P.say {D : va_G} {cl : List vw_C} {ws : va_W} {k a : Nat} {x y : va_E} {H : Heap} (hl : k < ws.length) (h : va_P D cl (ws.set k (a, x)) H) (e : va_at D cl (a, x) H → va_at D cl (a, y) H) : va_P D cl (ws.set k (a, y)) H := by
  refine va_P.mem.mpr fun q hq => ?_
  rcases set_mem hq with rfl | ⟨j, h1, h2⟩
  · exact e (h k (a, x) (by rw [List.getElem?_set_self hl]))
  · exact h j q (by rw [List.getElem?_set_ne (fun z => h1 z.symm)]; exact h2)
theorem va_D.say {A : Nat → Prop} {ws : va_W} {k a : Nat} {x y : va_E} (h : va_D A (ws.set k (a, x))) : va_D A (ws.set k (a, y)) := by
  have g : ∀ (j : Nat) (q : Nat × va_E), (ws.set k (a, y))[j]? = some q → ∃ e, (ws.set k (a, x))[j]? = some (q.1, e) := by
    intro j q hq
    rw [List.getElem?_set] at hq ⊢
    by_cases e : k = j
    · rw [if_pos e] at hq ⊢
      split at hq
      · rename_i hh
        rw [if_pos hh]
        cases Option.some.inj hq
        exact ⟨x, rfl⟩
      · cases hq
    · rw [if_neg e] at hq ⊢
      exact ⟨q.2, hq⟩
  refine ⟨fun i j p q hi hj e => ?_, fun j q hq => ?_⟩
  · obtain ⟨e1, h1⟩ := g i p hi
    obtain ⟨e2, h2⟩ := g j q hj
    exact h.1 i j _ _ h1 h2 e
  · obtain ⟨e1, h1⟩ := g j q hq
    exact h.2 j (q.1, e1) h1
section XC
variable {p : Program} {l : Launch} {e : Env} {R : Room} {s : State} {m : MethodId} {args : Array Value} {below : List Frame} {meth : Method} {c : Code} {H : Heap} {locs : List Loc} {cells slots : Nat} {Q : State → Prop}
variable {D : va_G} {cy : Nat → ClassId} {w w' : va_W} {A : Nat → Prop} {pc : Nat} {ls : Array Slot} {rest : List Value} {cc : ByteArray} {own : String}
theorem x_copyi (hx : p.tables.exec = Jvm.exec) (hb : c.code = cc) (hml : c.maxLocals = ls.size) {index : Nat} (hown : s.vm.findClass own = some m.cls) (hlink : (Cond.methodLink own index arraycopyName).before args s = true) (hnat : (Cond.native arraycopyName).before args s = true) (hstat : (Cond.static arraycopyName).before args s = true) (hini : (Cond.initialized "java/lang/System").before args s = true) (hK : va_K D vwCl (xTy cy) s) (hP : va_P D vwCl w H) (hD : va_D A w) (hS : va_S A s.heap H locs) (q0 q1 : Nat) {N a0 a1 : Nat} {f g : Nat → Int32} (h0 : w[q0]? = some (a0, .inl (cy 1, N, .inl f))) (h1 : w[q1]? = some (a1, .inl (cy 1, N, .inl g))) {sp dp n : Int32} (hsp : sp = 0) (hdp : dp = 0) (hn : ¬ n < 0 ∧ n.toNatClampNeg = N) (hframes : 1 ≤ R.frames) (hlocals : (rest.map fun v => v.category).sum + (nativeFrameWords "java/lang/System" "arraycopy" 5 + 11) ≤ R.locals) (hw' : w.set q1 (a1, .inl (cy 1, N, .inl f)) = w') (hdg : decode cc pc = .ok (.invokestatic index, 3))
    (kk : ∀ (H1 : Heap) (locs1 : List Loc), va_P D vwCl w' H1 → va_D A w' → va_S A s.heap H1 locs1 → W p l e R s m args below meth c H1 locs1 cells slots Q (F0 m (pc + 3) ls rest)) : W p l e R s m args below meth c H locs cells slots Q (F0 m pc ls (.int n :: .int dp :: .ref a1 :: .int sp :: .ref a0 :: rest)) := by
  subst hw' hsp hdp
  have z0 : (0 : Int32).toNatClampNeg = 0 := rfl
  refine va_copyi hx hb hml hown hlink hnat hstat hini hK hP hD hS q0 q1 1 1 h0 h1 rfl rfl rfl (by decide) (by decide) hn.1 (by rw [hn.2, z0]; omega) (by rw [hn.2, z0]; omega) (fun _ _ => rfl) hframes hlocals hdg (fun H1 locs1 hP1 hD1 hS1 => ?_)
  refine kk H1 locs1 (hP1.say (List.getElem?_eq_some_iff.mp h1).1 (fun h => ?_)) hD1.say hS1
  have h : H1[a1]? = some (vp_cell (cy 1) (N, .inl (va_cpy f g (0 : Int32).toNatClampNeg (0 : Int32).toNatClampNeg n.toNatClampNeg))) := h
  show H1[a1]? = some (vp_cell (cy 1) (N, .inl f))
  rw [h]
  refine congrArg some ?_
  show arrV (cy 1) N (fun j => .int (va_cpy f g (0 : Int32).toNatClampNeg (0 : Int32).toNatClampNeg n.toNatClampNeg j)) = arrV (cy 1) N (fun j => .int (f j))
  refine arrV_cong (fun j hj => ?_)
  rw [z0, hn.2, pk_cpy_in (Nat.zero_le _) (by omega)]
  simp
theorem x_copyl (hx : p.tables.exec = Jvm.exec) (hb : c.code = cc) (hml : c.maxLocals = ls.size) {index : Nat} (hown : s.vm.findClass own = some m.cls) (hlink : (Cond.methodLink own index arraycopyName).before args s = true) (hnat : (Cond.native arraycopyName).before args s = true) (hstat : (Cond.static arraycopyName).before args s = true) (hini : (Cond.initialized "java/lang/System").before args s = true) (hK : va_K D vwCl (xTy cy) s) (hP : va_P D vwCl w H) (hD : va_D A w) (hS : va_S A s.heap H locs) (q0 q1 : Nat) {N a0 a1 : Nat} {f g : Nat → Int64} (h0 : w[q0]? = some (a0, .inl (cy 2, N, .inr (.inl f)))) (h1 : w[q1]? = some (a1, .inl (cy 2, N, .inr (.inl g)))) {sp dp n : Int32} (hsp : sp = 0) (hdp : dp = 0) (hn : ¬ n < 0 ∧ n.toNatClampNeg = N) (hframes : 1 ≤ R.frames) (hlocals : (rest.map fun v => v.category).sum + (nativeFrameWords "java/lang/System" "arraycopy" 5 + 11) ≤ R.locals) (hw' : w.set q1 (a1, .inl (cy 2, N, .inr (.inl f))) = w') (hdg : decode cc pc = .ok (.invokestatic index, 3))
    (kk : ∀ (H1 : Heap) (locs1 : List Loc), va_P D vwCl w' H1 → va_D A w' → va_S A s.heap H1 locs1 → W p l e R s m args below meth c H1 locs1 cells slots Q (F0 m (pc + 3) ls rest)) : W p l e R s m args below meth c H locs cells slots Q (F0 m pc ls (.int n :: .int dp :: .ref a1 :: .int sp :: .ref a0 :: rest)) := by
  subst hw' hsp hdp
  have z0 : (0 : Int32).toNatClampNeg = 0 := rfl
  refine va_copyl hx hb hml hown hlink hnat hstat hini hK hP hD hS q0 q1 2 2 h0 h1 rfl rfl rfl (by decide) (by decide) hn.1 (by rw [hn.2, z0]; omega) (by rw [hn.2, z0]; omega) (fun _ _ => rfl) hframes hlocals hdg (fun H1 locs1 hP1 hD1 hS1 => ?_)
  refine kk H1 locs1 (hP1.say (List.getElem?_eq_some_iff.mp h1).1 (fun h => ?_)) hD1.say hS1
  have h : H1[a1]? = some (vp_cell (cy 2) (N, .inr (.inl (va_cpy f g (0 : Int32).toNatClampNeg (0 : Int32).toNatClampNeg n.toNatClampNeg)))) := h
  show H1[a1]? = some (vp_cell (cy 2) (N, .inr (.inl f)))
  rw [h]
  refine congrArg some ?_
  show arrV (cy 2) N (fun j => .long (va_cpy f g (0 : Int32).toNatClampNeg (0 : Int32).toNatClampNeg n.toNatClampNeg j)) = arrV (cy 2) N (fun j => .long (f j))
  refine arrV_cong (fun j hj => ?_)
  rw [z0, hn.2, pk_cpy_in (Nat.zero_le _) (by omega)]
  simp
end XC
theorem x_out0_5 {x : Int32} (h0 : ¬ x = 0) (h1 : ¬ x = 1) (h2 : ¬ x = 2) (h3 : ¬ x = 3) (h4 : ¬ x = 4) (h5 : ¬ x = 5) : x.toInt < 0 ∨ 5 < x.toInt := by
  have g0 := x_ne 0 0 rfl h0
  have g1 := x_ne 1 1 rfl h1
  have g2 := x_ne 2 2 rfl h2
  have g3 := x_ne 3 3 rfl h3
  have g4 := x_ne 4 4 rfl h4
  have g5 := x_ne 5 5 rfl h5
  omega
theorem x_out0_7 {x : Int32} (h0 : ¬ x = 0) (h1 : ¬ x = 1) (h2 : ¬ x = 2) (h3 : ¬ x = 3) (h4 : ¬ x = 4) (h5 : ¬ x = 5) (h6 : ¬ x = 6) (h7 : ¬ x = 7) : x.toInt < 0 ∨ 7 < x.toInt := by
  have g0 := x_ne 0 0 rfl h0
  have g1 := x_ne 1 1 rfl h1
  have g2 := x_ne 2 2 rfl h2
  have g3 := x_ne 3 3 rfl h3
  have g4 := x_ne 4 4 rfl h4
  have g5 := x_ne 5 5 rfl h5
  have g6 := x_ne 6 6 rfl h6
  have g7 := x_ne 7 7 rfl h7
  omega
theorem x_out0_6 {x : Int32} (h0 : ¬ x = 0) (h1 : ¬ x = 1) (h2 : ¬ x = 2) (h3 : ¬ x = 3) (h4 : ¬ x = 4) (h5 : ¬ x = 5) (h6 : ¬ x = 6) : x.toInt < 0 ∨ 6 < x.toInt := by
  have g0 := x_ne 0 0 rfl h0
  have g1 := x_ne 1 1 rfl h1
  have g2 := x_ne 2 2 rfl h2
  have g3 := x_ne 3 3 rfl h3
  have g4 := x_ne 4 4 rfl h4
  have g5 := x_ne 5 5 rfl h5
  have g6 := x_ne 6 6 rfl h6
  omega
theorem x_out1_3 {x : Int32} (h1 : ¬ x = 1) (h2 : ¬ x = 2) (h3 : ¬ x = 3) : x.toInt < 1 ∨ 3 < x.toInt := by
  have g1 := x_ne 1 1 rfl h1
  have g2 := x_ne 2 2 rfl h2
  have g3 := x_ne 3 3 rfl h3
  omega
theorem x_out98_116 {x : Int32} (h98 : ¬ x = 98) (h99 : ¬ x = 99) (h100 : ¬ x = 100) (h101 : ¬ x = 101) (h102 : ¬ x = 102) (h103 : ¬ x = 103) (h104 : ¬ x = 104) (h105 : ¬ x = 105) (h106 : ¬ x = 106) (h107 : ¬ x = 107) (h108 : ¬ x = 108) (h109 : ¬ x = 109) (h110 : ¬ x = 110) (h111 : ¬ x = 111) (h112 : ¬ x = 112) (h113 : ¬ x = 113) (h114 : ¬ x = 114) (h115 : ¬ x = 115) (h116 : ¬ x = 116) : x.toInt < 98 ∨ 116 < x.toInt := by
  have g98 := x_ne 98 98 rfl h98
  have g99 := x_ne 99 99 rfl h99
  have g100 := x_ne 100 100 rfl h100
  have g101 := x_ne 101 101 rfl h101
  have g102 := x_ne 102 102 rfl h102
  have g103 := x_ne 103 103 rfl h103
  have g104 := x_ne 104 104 rfl h104
  have g105 := x_ne 105 105 rfl h105
  have g106 := x_ne 106 106 rfl h106
  have g107 := x_ne 107 107 rfl h107
  have g108 := x_ne 108 108 rfl h108
  have g109 := x_ne 109 109 rfl h109
  have g110 := x_ne 110 110 rfl h110
  have g111 := x_ne 111 111 rfl h111
  have g112 := x_ne 112 112 rfl h112
  have g113 := x_ne 113 113 rfl h113
  have g114 := x_ne 114 114 rfl h114
  have g115 := x_ne 115 115 rfl h115
  have g116 := x_ne 116 116 rfl h116
  omega
theorem x_out0_29 {x : Int32} (h0 : ¬ x = 0) (h1 : ¬ x = 1) (h2 : ¬ x = 2) (h3 : ¬ x = 3) (h4 : ¬ x = 4) (h5 : ¬ x = 5) (h6 : ¬ x = 6) (h7 : ¬ x = 7) (h8 : ¬ x = 8) (h9 : ¬ x = 9) (h10 : ¬ x = 10) (h11 : ¬ x = 11) (h12 : ¬ x = 12) (h13 : ¬ x = 13) (h14 : ¬ x = 14) (h15 : ¬ x = 15) (h16 : ¬ x = 16) (h17 : ¬ x = 17) (h18 : ¬ x = 18) (h19 : ¬ x = 19) (h20 : ¬ x = 20) (h21 : ¬ x = 21) (h22 : ¬ x = 22) (h23 : ¬ x = 23) (h24 : ¬ x = 24) (h25 : ¬ x = 25) (h26 : ¬ x = 26) (h27 : ¬ x = 27) (h28 : ¬ x = 28) (h29 : ¬ x = 29) : x.toInt < 0 ∨ 29 < x.toInt := by
  have g0 := x_ne 0 0 rfl h0
  have g1 := x_ne 1 1 rfl h1
  have g2 := x_ne 2 2 rfl h2
  have g3 := x_ne 3 3 rfl h3
  have g4 := x_ne 4 4 rfl h4
  have g5 := x_ne 5 5 rfl h5
  have g6 := x_ne 6 6 rfl h6
  have g7 := x_ne 7 7 rfl h7
  have g8 := x_ne 8 8 rfl h8
  have g9 := x_ne 9 9 rfl h9
  have g10 := x_ne 10 10 rfl h10
  have g11 := x_ne 11 11 rfl h11
  have g12 := x_ne 12 12 rfl h12
  have g13 := x_ne 13 13 rfl h13
  have g14 := x_ne 14 14 rfl h14
  have g15 := x_ne 15 15 rfl h15
  have g16 := x_ne 16 16 rfl h16
  have g17 := x_ne 17 17 rfl h17
  have g18 := x_ne 18 18 rfl h18
  have g19 := x_ne 19 19 rfl h19
  have g20 := x_ne 20 20 rfl h20
  have g21 := x_ne 21 21 rfl h21
  have g22 := x_ne 22 22 rfl h22
  have g23 := x_ne 23 23 rfl h23
  have g24 := x_ne 24 24 rfl h24
  have g25 := x_ne 25 25 rfl h25
  have g26 := x_ne 26 26 rfl h26
  have g27 := x_ne 27 27 rfl h27
  have g28 := x_ne 28 28 rfl h28
  have g29 := x_ne 29 29 rfl h29
  omega
theorem x_lk98_112_114_115_116 {x : Int32} {o1 o2 o3 o4 o5 d : Int} (h98 : ¬ x = 98) (h112 : ¬ x = 112) (h114 : ¬ x = 114) (h115 : ¬ x = 115) (h116 : ¬ x = 116) : Op.lookupswitch.offset (#[(98, o1), (112, o2), (114, o3), (115, o4), (116, o5)] : Array (Int × Int)).toList d x.toInt = d := by
  have g98 := x_ne 98 98 rfl h98
  have g98 : ¬ 98 = x.toInt := fun e => g98 e.symm
  have g112 := x_ne 112 112 rfl h112
  have g112 : ¬ 112 = x.toInt := fun e => g112 e.symm
  have g114 := x_ne 114 114 rfl h114
  have g114 : ¬ 114 = x.toInt := fun e => g114 e.symm
  have g115 := x_ne 115 115 rfl h115
  have g115 : ¬ 115 = x.toInt := fun e => g115 e.symm
  have g116 := x_ne 116 116 rfl h116
  have g116 : ¬ 116 = x.toInt := fun e => g116 e.symm
  simp [Op.lookupswitch.offset, *]
theorem x_map_in {ws wc : va_W} {is : List Nat} (h : is.map (fun i => ws[i]?) = wc.map some) : ∀ q ∈ wc, q ∈ ws := by
  intro q hq
  have h1 : some q ∈ is.map (fun i => ws[i]?) := by rw [h]; exact List.mem_map.mpr ⟨q, hq, rfl⟩
  obtain ⟨i, -, hi⟩ := List.mem_map.mp h1
  exact List.mem_of_getElem? hi
theorem va_P.subm {D : va_G} {cl : List vw_C} {ws wc : va_W} {H : Heap} (h : va_P D cl ws H) {is : List Nat} (hi : is.map (fun i => ws[i]?) = wc.map some) : va_P D cl wc H := va_P.mem.mpr fun q hq => va_P.mem.mp h q (x_map_in hi q hq)
section XX
variable {p : Program} {l : Launch} {e : Env} {R : Room} {s : State} {m : MethodId} {args : Array Value} {below : List Frame} {meth : Method} {c : Code} {H : Heap} {locs : List Loc} {cells slots : Nat} {Q : State → Prop}
variable {D : va_G} {cy : Nat → ClassId} {w w' wr wc wc' : va_W} {A : Nat → Prop} {pc : Nat} {ls : Array Slot} {rest st : List Value} {cc bytes : ByteArray} {Ts ws : List Cond} {own : String}
variable {y : MethodName} {maxL nL n index ci q0 : Nat} {ret : Option FieldType} {rm : Room} {C host : String} {b : Addr} {As : List Value} {q : vw_C} {fs : List Value} {lv : List (Nat × Value)}
theorem x_callXv (S : CallFix p m c cc nL s args Ts own) (hM : xMv l D cy y ws rm (.ref b :: As) wc wc') (cw : CallW R s args own C index y bytes maxL ret ws rm 0 0 n) (isC isR isO : List Nat) (hC0 : isC.map (fun i => w[i]?) = wc.map some) (hR : isR.map (fun i => w[i]?) = wr.map some) (hnC : va_nd isC = true) (hnR : va_nd isR = true) (hdis : ∀ i ∈ isR, i ∉ isC) (hO : isO.map (fun i => (wr ++ wc')[i]?) = w'.map some) (hnO : va_nd isO = true) (hP : va_P D vwCl w H) (hK : va_K D vwCl (xTy cy) s) (hD : va_D A w) (hN : nb_ok A s) (hS : va_S A s.heap H locs) (hA : ∀ q, s.heap.size ≤ q → A q) (he : wc[q0]? = some (b, .inr (ci, fs))) (hc : vwCl[ci]? = some q) (hC : q.1 = C) (hn : As.length = n) (hl : lv_has ls nL lv) (hst : st = As.reverse ++ .ref b :: rest) (hW : (rest.map fun v => v.category).sum ≤ 8) (hdg : decode cc pc = .ok (.invokevirtual index, 3)) (hf : cells ≤ R.cells ∧ slots ≤ R.slots)
    (kk : ∀ (H1 : Heap) (locs1 : List Loc), va_P D vwCl w' H1 → va_D A w' → va_S A s.heap H1 locs1 → W p l e R s m args below meth c H1 locs1 cells slots Q (F0 m (pc + 3) ls rest)) : W p l e R s m args below meth c H locs cells slots Q (F0 m pc ls st) := by
  have hF := va_free (wc := wc) hD hS hA isC hC0
  have hPc := hP.subm hC0
  have hDc := hD.sub isC hnC hC0
  refine va_callv (x_runV S (hM H.size) cw hPc hK hDc hN hS hF he hc hC hn hl hst hW hdg hf) hS (fun q _ h => hF q h) hF (fun u t H1 locs1 ht hvm hw hB hz1 hk1 hS1 => ?_)
  obtain ⟨hP1, hK1, hD1⟩ := hB
  rw [ht] at hP1
  obtain ⟨hP2, hD2⟩ := va_join hP hD isC isR hC0 hR hnR hdis hk1 hF hP1 hD1
  exact kk H1 locs1 (hP2.subm hO) (hD2.sub isO hnO hO) hS1
end XX
theorem nil_P {D : va_G} {cl : List vw_C} {H : Heap} : va_P D cl [] H := fun k q h => by simp at h
theorem nil_D {A : Nat → Prop} : va_D A [] := ⟨fun i j p q h => by simp at h, fun k q h => by simp at h⟩
theorem x_end {w1 wc w : va_W} (h : w1 ++ wc = w) : w1 ++ (wc ++ []) = w := by rw [List.append_nil]; exact h
theorem va_P.perm {D : va_G} {cl : List vw_C} {a b : va_W} {H : Heap} (p : a.Perm b) (h : va_P D cl a H) : va_P D cl b H := va_P.mem.mpr fun q hq => va_P.mem.mp h q (p.mem_iff.mpr hq)
theorem va_D.perm {A : Nat → Prop} {a b : va_W} (p : a.Perm b) (h : va_D A a) : va_D A b := by
  induction p with
  | nil => exact h
  | cons x p ih =>
    rename_i l1 l2
    have h : va_D A ([x] ++ l1) := h
    exact va_D.mk2 (a := [x]) h.lft (ih h.rgt) (fun u hu v hv => h.ne hu (p.mem_iff.mpr hv))
  | swap x y l =>
    have h : va_D A ([y] ++ ([x] ++ l)) := h
    refine va_D.mk2 (a := [x]) (b := [y] ++ l) h.rgt.lft (va_D.mk2 h.lft h.rgt.rgt (fun u hu v hv => h.ne hu (List.mem_append_right _ hv))) (fun u hu v hv => ?_)
    rcases List.mem_append.mp hv with q | q
    · exact (h.ne q (List.mem_append_left _ hu)).symm
    · exact h.rgt.ne hu q
  | trans _ _ i1 i2 => exact i2 (i1 h)
section XP
variable {p : Program} {l : Launch} {e : Env} {R : Room} {s : State} {m : MethodId} {args : Array Value} {below : List Frame} {meth : Method} {c : Code} {H : Heap} {locs : List Loc} {cells slots : Nat} {Q : State → Prop}
variable {D : va_G} {cy : Nat → ClassId} {w w' wr wc wc' : va_W} {A : Nat → Prop} {pc : Nat} {ls : Array Slot} {rest st : List Value} {cc bytes : ByteArray} {Ts ws : List Cond} {own : String}
variable {y : MethodName} {maxL nL n index ci q0 : Nat} {ret : Option FieldType} {rm : Room} {C host : String} {b : Addr} {As : List Value} {q : vw_C} {fs : List Value} {lv : List (Nat × Value)}
theorem x_callPv (S : CallFix p m c cc nL s args Ts own) (hM : xMv l D cy y ws rm (.ref b :: As) wc wc') (cw : CallW R s args own C index y bytes maxL ret ws rm 0 0 n) (hw : (wc ++ wr).Perm w) (hw' : (wc' ++ wr).Perm w') (hP : va_P D vwCl w H) (hK : va_K D vwCl (xTy cy) s) (hD : va_D A w) (hN : nb_ok A s) (hS : va_S A s.heap H locs) (hA : ∀ q, s.heap.size ≤ q → A q) (he : wc[q0]? = some (b, .inr (ci, fs))) (hc : vwCl[ci]? = some q) (hC : q.1 = C) (hn : As.length = n) (hl : lv_has ls nL lv) (hst : st = As.reverse ++ .ref b :: rest) (hW : (rest.map fun v => v.category).sum ≤ 8) (hdg : decode cc pc = .ok (.invokevirtual index, 3)) (hf : cells ≤ R.cells ∧ slots ≤ R.slots)
    (kk : ∀ (H1 : Heap) (locs1 : List Loc), va_P D vwCl w' H1 → va_D A w' → va_S A s.heap H1 locs1 → W p l e R s m args below meth c H1 locs1 cells slots Q (F0 m (pc + 3) ls rest)) : W p l e R s m args below meth c H locs cells slots Q (F0 m pc ls st) :=
  x_callVv S hM cw (w1 := []) (w2 := wr) rfl rfl (hP.perm hw.symm) hK (hD.perm hw.symm) hN hS hA he hc hC hn hl hst hW hdg hf (fun H1 locs1 hP1 hD1 hS1 => kk H1 locs1 (hP1.perm hw') (hD1.perm hw') hS1)
end XP
