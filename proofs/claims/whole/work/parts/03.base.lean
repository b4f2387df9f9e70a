/-! the words of the tables that a contract may carry, one list for all methods -/
def gT : List Cond := lw_tbl.filter goodWord
theorem gT_in {w : Cond} (i : Nat) (h : lw_tbl[i]? = some w) (g : goodWord w = true) : w ∈ gT := List.mem_filter.mpr ⟨List.mem_of_getElem? h, g⟩
theorem gT_r (ws : List Cond) (ps : List Nat) (hp : ws = ps.filterMap (fun i => lw_tbl[i]?)) (h : ws.all goodWord = true) : ∀ w ∈ ws, w ∈ gT := by
  intro w hw
  have h1 := List.all_eq_true.mp h w hw
  rw [hp] at hw
  obtain ⟨i, -, hi⟩ := List.mem_filterMap.mp hw
  exact List.mem_filter.mpr ⟨List.mem_of_getElem? hi, h1⟩
theorem gT_tbl {w : Cond} (h : w ∈ gT) : w ∈ lw_tbl := (List.mem_filter.mp h).1
theorem gT_ok {w : Cond} (h : w ∈ gT) : (w.onTables && w.keeps) = true ∨ ∃ ty, w = .arrayClass ty := good_of_word (List.mem_filter.mp h).2
abbrev wY (y : MethodName) (cc : ByteArray) (n : Nat) (ret : Option FieldType) : List Cond := .code y cc n ret :: gT
abbrev EE : Type := va_G × ClassId × ClassId × ClassId
abbrev classes : List vw_C := [(RX0, TX0, 6), (RX1, TX1, 4), (RX2, TX2, 4), (RX3, TX3, 3), (RX4, TX4, 3)]
abbrev tysA (E : EE) : List (ClassId × FieldType) := [(E.2.1, .int), (E.2.2.1, .boolean), (E.2.2.2, .object "BoxBindings$Box")]
def KK (E : EE) (U : State) : Prop := va_K E.1 classes (tysA E) U
def rmD (d : Nat) : Room := { frames := d, cells := 0, slots := 0, locals := 27 * d }
def Gw (E : EE) (A : Nat → Prop) (s : State) (w : va_W) (H : Heap) (locs : List Loc) : Prop := va_P E.1 classes w H ∧ va_D A w ∧ va_S A s.heap H locs
def Cx (p : Program) (s : State) (m : MethodId) (args : Array Value) (meth : Method) (c : Code) (cc : ByteArray) (nL : Nat) (own : String) (E : EE) (A : Nat → Prop) : Prop :=
  p.tables.exec = Jvm.exec ∧ c.code = cc ∧ c.maxLocals = nL ∧ s.vm.findClass own = some m.cls ∧ (∀ w ∈ gT, w.before args s = true) ∧ KK E s ∧ (∀ q, s.heap.size ≤ q → A q) ∧ meth.locks = false
def CtP (E : EE) (sz : Nat) (av : List Value) (w : va_W) : Array Value → State → Prop := va_Pc av (fun U => U.heap.size = sz ∧ va_P E.1 classes w U.heap ∧ KK E U ∧ va_D (fun _ => True) w)
def CtQ (E : EE) (A : Nat → Prop) (r : Int32) (w' : va_W) : Array Value → State → Outcome → State → Prop := va_Qi (fun r' (_ : Unit) => r' = r) (fun _ t => va_P E.1 classes w' t.heap ∧ KK E t ∧ va_D A w') A
def CvQ (E : EE) (A : Nat → Prop) (w' : va_W) : Array Value → State → Outcome → State → Prop := va_Qv (fun (_ : Unit) => True) (fun _ t => va_P E.1 classes w' t.heap ∧ KK E t ∧ va_D A w') A
/-- a contract: the method answers r, the world w becomes w'; nothing is made -/
def Ct (l : Launch) (y : MethodName) (cc : ByteArray) (n : Nat) (ret : Option FieldType) (d : Nat) (E : EE) (av : List Value) (w : va_W) (r : Int32) (w' : va_W) : Prop :=
  ∀ sz, Met l y (wY y cc n ret) (rmD d) (CtP E sz av w) (CtQ E (va_A w sz) r w') 0 0 (va_A w sz)
def Cv (l : Launch) (y : MethodName) (cc : ByteArray) (n : Nat) (d : Nat) (E : EE) (av : List Value) (w : va_W) (w' : va_W) : Prop :=
  ∀ sz, Met l y (wY y cc n none) (rmD d) (CtP E sz av w) (CvQ E (va_A w sz) w') 0 0 (va_A w sz)
theorem CtP_blind {E : EE} {sz : Nat} {av : List Value} {w : va_W} : FrameBlind (CtP E sz av w) := fun a U g mk q => by
  obtain ⟨q0, q1, qP, qK, qD⟩ := q
  exact ⟨q0, q1, qP, va_K.moved (u := U) (U := U.calling g mk a) (Vm.Alike.refl U.vm) qK, qD⟩
theorem Ct_mk {l : Launch} {y : MethodName} {cc : ByteArray} {n : Nat} {ret : Option FieldType} {d : Nat} {E : EE} {av : List Value} {w : va_W} {r : Int32} {w' : va_W} (own : String) (ho : y.cls = own) (hy : plainName y.cls = true) (hn : (lg_sl av).length ≤ n)
    (body : ∀ (p : Program) (e : Env) (s : State) (m : MethodId) (below : List Frame) (meth : Method) (c : Code) (A : Nat → Prop) (ls : Array Slot), Cx p s m av.toArray meth c cc n own E A → meth.sig.returnType = ret → Gw E A s w s.heap [] → lv_has ls n (lv_args 0 av) → W p l e (rmD d) s m av.toArray below meth c s.heap [] 0 0 (MQ below (CtQ E A r w') av.toArray s 0 0 A) (F0 m 0 ls [])) : Ct l y cc n ret d E av w r w' := by
  intro sz
  refine Met.ofW (cc := cc) (maxL := n) (ret := ret) hy rfl ?_
  intro p e s m args below meth c s₁ B hml hv
  obtain ⟨rfl, hsz, hP, hK, hD0⟩ := hv
  subst hsz
  subst ho
  have hl := lv_entry av (n := n) hn
  rw [lg_entry_eq]
  exact body p e s m below meth c _ _ ⟨B.exec, B.bytes, hml, findClass_of_methodNamed B.named, fun w hw => atoms_spec (ws := wY y cc n ret) B.pre w (List.mem_cons_of_mem _ hw), hK, fun q h => Or.inr h, B.notSynchronized⟩ B.returns ⟨hP, hD0.self, va_S.rf⟩ hl
theorem Cv_mk {l : Launch} {y : MethodName} {cc : ByteArray} {n : Nat} {d : Nat} {E : EE} {av : List Value} {w : va_W} {w' : va_W} (own : String) (ho : y.cls = own) (hy : plainName y.cls = true) (hn : (lg_sl av).length ≤ n)
    (body : ∀ (p : Program) (e : Env) (s : State) (m : MethodId) (below : List Frame) (meth : Method) (c : Code) (A : Nat → Prop) (ls : Array Slot), Cx p s m av.toArray meth c cc n own E A → meth.sig.returnType = none → Gw E A s w s.heap [] → lv_has ls n (lv_args 0 av) → W p l e (rmD d) s m av.toArray below meth c s.heap [] 0 0 (MQ below (CvQ E A w') av.toArray s 0 0 A) (F0 m 0 ls [])) : Cv l y cc n d E av w w' := by
  intro sz
  refine Met.ofW (cc := cc) (maxL := n) (ret := none) hy rfl ?_
  intro p e s m args below meth c s₁ B hml hv
  obtain ⟨rfl, hsz, hP, hK, hD0⟩ := hv
  subst hsz
  subst ho
  have hl := lv_entry av (n := n) hn
  rw [lg_entry_eq]
  exact body p e s m below meth c _ _ ⟨B.exec, B.bytes, hml, findClass_of_methodNamed B.named, fun w hw => atoms_spec (ws := wY y cc n none) B.pre w (List.mem_cons_of_mem _ hw), hK, fun q h => Or.inr h, B.notSynchronized⟩ B.returns ⟨hP, hD0.self, va_S.rf⟩ hl
/-- what a call needs of the tables -/
def CalV (own : String) (idx : Nat) (C : String) (y : MethodName) (cc : ByteArray) (n : Nat) (ret : Option FieldType) (k : Nat) : Prop :=
  (Cond.methodLink own idx y ∈ gT ∧ Cond.instanceMethod y ∈ gT ∧ Cond.selects C y y ∈ gT ∧ Cond.initialized C ∈ gT ∧ Cond.code y cc n ret ∈ gT) ∧ y.cls = C ∧ y.cls ≠ "java/lang/invoke/MethodHandle" ∧ y.cls ≠ "java/lang/invoke/VarHandle" ∧ (parseMethodDescriptor y.desc).map (fun d => d.parameters.length) = some k
def CalS (own : String) (idx : Nat) (y : MethodName) (cc : ByteArray) (n : Nat) (ret : Option FieldType) (k : Nat) : Prop :=
  (Cond.methodLink own idx y ∈ gT ∧ Cond.static y ∈ gT ∧ Cond.initialized y.cls ∈ gT ∧ Cond.code y cc n ret ∈ gT) ∧ y.cls ≠ "java/lang/invoke/MethodHandle" ∧ y.cls ≠ "java/lang/invoke/VarHandle" ∧ (parseMethodDescriptor y.desc).map (fun d => d.parameters.length) = some k
theorem gT_goodV {own : String} {idx : Nat} {C : String} {y : MethodName} {cc : ByteArray} {n : Nat} {ret : Option FieldType} (h : Cond.methodLink own idx y ∈ gT ∧ Cond.instanceMethod y ∈ gT ∧ Cond.selects C y y ∈ gT ∧ Cond.initialized C ∈ gT ∧ Cond.code y cc n ret ∈ gT) : GoodIn gT (wsV own idx C y (wY y cc n ret)) := by
  intro w hw
  have hg : w ∈ gT := by
    simp only [wsV, List.mem_append, List.mem_cons, List.not_mem_nil, or_false] at hw
    rcases hw with (rfl | rfl | rfl | rfl) | (rfl | hw)
    · exact h.1
    · exact h.2.1
    · exact h.2.2.1
    · exact h.2.2.2.1
    · exact h.2.2.2.2
    · exact hw
  exact ⟨hg, gT_ok hg⟩
theorem gT_goodS {own : String} {idx : Nat} {y : MethodName} {cc : ByteArray} {n : Nat} {ret : Option FieldType} (h : Cond.methodLink own idx y ∈ gT ∧ Cond.static y ∈ gT ∧ Cond.initialized y.cls ∈ gT ∧ Cond.code y cc n ret ∈ gT) : GoodIn gT (va_wsS own idx y (wY y cc n ret)) := by
  intro w hw
  have hg : w ∈ gT := by
    simp only [va_wsS, List.mem_append, List.mem_cons, List.not_mem_nil, or_false] at hw
    rcases hw with (rfl | rfl | rfl) | (rfl | hw)
    · exact h.1
    · exact h.2.1
    · exact h.2.2.1
    · exact h.2.2.2
    · exact hw
  exact ⟨hg, gT_ok hg⟩
section GR
variable {p : Program} {l : Launch} {e : Env} {R : Room} {s : State} {m : MethodId} {args : Array Value} {below : List Frame} {meth : Method} {c : Code} {H : Heap} {locs : List Loc} {cells slots : Nat} {Q : State → Prop}
variable {cc : ByteArray} {nL : Nat} {own : String} {E : EE} {A : Nat → Prop} {w w' : va_W} {pc : Nat} {ls : Array Slot} {rest stk : List Value} {a : Nat}
theorem g_ret {v r : Int32} {ty : FieldType} (X : Cx p s m args meth c cc nL own E A) (hr : meth.sig.returnType = some ty) (hn : narrow ty (.int v) = .int v) (G : Gw E A s w H locs) (hw : w = w') (hv : v = r) (hdg : decode cc pc = .ok (.ireturn, 1)) : W p l e R s m args below meth c H locs 0 0 (MQ below (CtQ E A r w') args s 0 0 A) (F0 m pc ls [.int v]) := by
  subst hw; subst hv
  obtain ⟨hx, hb, hml, hown, hts, hK, hA, hlocks⟩ := X
  exact W.zret hx hb hr hn (fun t ht hW => ⟨⟨v, (), rfl, rfl, by rw [ht]; exact G.1, va_K.moved hW.alike hK, G.2.1⟩, G.2.2.F ht⟩) G.2.2.2.2 hdg hlocks
theorem g_iret {v r : Int32} (X : Cx p s m args meth c cc nL own E A) (hr : meth.sig.returnType = some .int) (G : Gw E A s w H locs) (hw : w = w') (hv : v = r) (hdg : decode cc pc = .ok (.ireturn, 1)) : W p l e R s m args below meth c H locs 0 0 (MQ below (CtQ E A r w') args s 0 0 A) (F0 m pc ls [.int v]) := g_ret X hr (vp_nar_int v) G hw hv hdg
theorem g_vret (X : Cx p s m args meth c cc nL own E A) (hr : meth.sig.returnType = none) (G : Gw E A s w H locs) (hw : w = w') (hdg : decode cc pc = .ok (.return_, 1)) : W p l e R s m args below meth c H locs 0 0 (MQ below (CvQ E A w') args s 0 0 A) (F0 m pc ls []) := by
  subst hw
  obtain ⟨hx, hb, hml, hown, hts, hK, hA, hlocks⟩ := X
  exact W.vret hx hb hr (fun t ht hW => ⟨⟨(), rfl, trivial, by rw [ht]; exact G.1, va_K.moved hW.alike hK, G.2.1⟩, G.2.2.F ht⟩) G.2.2.2.2 hdg hlocks
theorem g_frame (G : Gw E A s w H locs) (hA : ∀ q, s.heap.size ≤ q → A q) : ∀ q, va_A w H.size q → A q := by
  intro q h
  rcases h with ⟨k, e, h⟩ | h
  · exact G.2.1.2 k (q, e) h
  · exact hA q (Nat.le_trans G.2.2.1 h)
theorem g_callV {y2 : MethodName} {cc2 : ByteArray} {n2 : Nat} {ret2 : Option FieldType} {d2 k : Nat} {C : String} {idx b : Nat} {As : List Value} {r : Int32} {ci : Nat} {fs : List Value} {T : u_T} {N : Nat} (X : Cx p s m args meth c cc nL own E A) (hc : CalV own idx C y2 cc2 n2 ret2 k) (hM : Ct l y2 cc2 n2 ret2 d2 E (.ref b :: As) w r w') (G : Gw E A s w H locs) (q0 : Nat) (he : w[q0]? = some (b, .inr (ci, fs))) (hcl : classes[ci]? = some (C, T, N)) (hR : d2 + 1 ≤ R.frames ∧ 8 + (n2 + 11) + 27 * d2 ≤ R.locals) (hf : cells ≤ R.cells ∧ slots ≤ R.slots) (hlen : As.length = k) (hls : ls.size = nL) (hst : stk = As.reverse ++ .ref b :: rest) (hroom : (rest.map fun v => v.category).sum ≤ 8) (hdg : decode cc pc = .ok (.invokevirtual idx, 3))
    (kk : ∀ (H1 : Heap) (locs1 : List Loc), Gw E A s w' H1 locs1 → W p l e R s m args below meth c H1 locs1 cells slots Q (F0 m (pc + 3) ls (.int r :: rest))) : W p l e R s m args below meth c H locs cells slots Q (F0 m pc ls stk) := by
  obtain ⟨hx, hb, hml, hown, hts, hK, hA, hlocks⟩ := X
  have hF := g_frame G hA
  obtain ⟨hP, hD, hS⟩ := G
  refine va_calli (va_runV (As := As) (rest := rest) ⟨hx, hb, hml, hown, hts⟩ (hM H.size) (cwV k hts (gT_goodV hc.1) rfl rfl rfl hc.2 hR) ⟨CtP_blind, va_recv hK hP (ci := ci) (q0 := q0) hcl he, fun U hU hW => ⟨rfl, by rw [hU], by rw [hU]; exact hP, va_K.moved hW.alike hK, hD.weaken (fun _ _ _ _ => trivial)⟩⟩ rfl hlen hls hst (lv_room hroom) hdg hf) hS (fun q _ h => hF q h) hF (fun r1 u t H1 locs1 ht hvm hw hB hz1 hk1 hS1 => ?_)
  subst hw
  exact kk H1 locs1 ⟨by rw [← ht]; exact hB.1, hB.2.2.weaken (fun _ _ _ h => hF _ h), hS1⟩
theorem g_callVv {y2 : MethodName} {cc2 : ByteArray} {n2 : Nat} {d2 k : Nat} {C : String} {idx b : Nat} {As : List Value} {ci : Nat} {fs : List Value} {T : u_T} {N : Nat} (X : Cx p s m args meth c cc nL own E A) (hc : CalV own idx C y2 cc2 n2 none k) (hM : Cv l y2 cc2 n2 d2 E (.ref b :: As) w w') (G : Gw E A s w H locs) (q0 : Nat) (he : w[q0]? = some (b, .inr (ci, fs))) (hcl : classes[ci]? = some (C, T, N)) (hR : d2 + 1 ≤ R.frames ∧ 8 + (n2 + 11) + 27 * d2 ≤ R.locals) (hf : cells ≤ R.cells ∧ slots ≤ R.slots) (hlen : As.length = k) (hls : ls.size = nL) (hst : stk = As.reverse ++ .ref b :: rest) (hroom : (rest.map fun v => v.category).sum ≤ 8) (hdg : decode cc pc = .ok (.invokevirtual idx, 3))
    (kk : ∀ (H1 : Heap) (locs1 : List Loc), Gw E A s w' H1 locs1 → W p l e R s m args below meth c H1 locs1 cells slots Q (F0 m (pc + 3) ls rest)) : W p l e R s m args below meth c H locs cells slots Q (F0 m pc ls stk) := by
  obtain ⟨hx, hb, hml, hown, hts, hK, hA, hlocks⟩ := X
  have hF := g_frame G hA
  obtain ⟨hP, hD, hS⟩ := G
  refine va_callv (va_runV (As := As) (rest := rest) ⟨hx, hb, hml, hown, hts⟩ (hM H.size) (cwV k hts (gT_goodV hc.1) rfl rfl rfl hc.2 hR) ⟨CtP_blind, va_recv hK hP (ci := ci) (q0 := q0) hcl he, fun U hU hW => ⟨rfl, by rw [hU], by rw [hU]; exact hP, va_K.moved hW.alike hK, hD.weaken (fun _ _ _ _ => trivial)⟩⟩ rfl hlen hls hst (lv_room hroom) hdg hf) hS (fun q _ h => hF q h) hF (fun u t H1 locs1 ht hvm hw hB hz1 hk1 hS1 => ?_)
  exact kk H1 locs1 ⟨by rw [← ht]; exact hB.1, hB.2.2.weaken (fun _ _ _ h => hF _ h), hS1⟩
theorem g_callS {y2 : MethodName} {cc2 : ByteArray} {n2 : Nat} {ret2 : Option FieldType} {d2 k : Nat} {idx : Nat} {As : List Value} {r : Int32} (X : Cx p s m args meth c cc nL own E A) (hc : CalS own idx y2 cc2 n2 ret2 k) (hM : Ct l y2 cc2 n2 ret2 d2 E As w r w') (G : Gw E A s w H locs) (hR : d2 + 1 ≤ R.frames ∧ 8 + (n2 + 11) + 27 * d2 ≤ R.locals) (hf : cells ≤ R.cells ∧ slots ≤ R.slots) (hlen : As.length = k) (hls : ls.size = nL) (hst : stk = As.reverse ++ rest) (hroom : (rest.map fun v => v.category).sum ≤ 8) (hdg : decode cc pc = .ok (.invokestatic idx, 3))
    (kk : ∀ (H1 : Heap) (locs1 : List Loc), Gw E A s w' H1 locs1 → W p l e R s m args below meth c H1 locs1 cells slots Q (F0 m (pc + 3) ls (.int r :: rest))) : W p l e R s m args below meth c H locs cells slots Q (F0 m pc ls stk) := by
  obtain ⟨hx, hb, hml, hown, hts, hK, hA, hlocks⟩ := X
  have hF := g_frame G hA
  obtain ⟨hP, hD, hS⟩ := G
  refine va_calli (va_runS (As := As) (rest := rest) ⟨hx, hb, hml, hown, hts⟩ (hM H.size) (va_cwS k hts (gT_goodS hc.1) rfl rfl rfl hc.2 hR) ⟨CtP_blind, fun U hU hW => ⟨rfl, by rw [hU], by rw [hU]; exact hP, va_K.moved hW.alike hK, hD.weaken (fun _ _ _ _ => trivial)⟩⟩ rfl hlen hls hst (lv_room hroom) hdg hf) hS (fun q _ h => hF q h) hF (fun r1 u t H1 locs1 ht hvm hw hB hz1 hk1 hS1 => ?_)
  subst hw
  exact kk H1 locs1 ⟨by rw [← ht]; exact hB.1, hB.2.2.weaken (fun _ _ _ h => hF _ h), hS1⟩
/-- a field of a class of ours -/
def Fl (own : String) (idx ci k : Nat) (C : String) (T : u_T) (N : Nat) : Prop := classes[ci]? = some (C, T, N) ∧ k < N ∧ (∀ w ∈ u_ws C T N, w ∈ gT) ∧ Cond.fieldLink own idx (T k).1 (T k).2.1 (T k).2.2.1 ∈ gT
theorem g_get {idx ci k : Nat} {C : String} {T : u_T} {N : Nat} {fs : List Value} {v : Value} (X : Cx p s m args meth c cc nL own E A) (G : Gw E A s w H locs) (hf : Fl own idx ci k C T N) (q0 : Nat) (he : w[q0]? = some (a, .inr (ci, fs))) (hv : fs[k]? = some v) (hdg : decode cc pc = .ok (.getfield idx, 3))
    (kk : W p l e R s m args below meth c H locs cells slots Q (F0 m (pc + 3) ls (v :: rest))) : W p l e R s m args below meth c H locs cells slots Q (F0 m pc ls (.ref a :: rest)) := by
  obtain ⟨hx, hb, hml, hown, hts, hK, hA, hlocks⟩ := X
  obtain ⟨h1, h2, h3, h4⟩ := hf
  exact va_get hx hb hts h3 hown hK G.1 q0 he h1 k h2 (hts _ h4) (fun _ h => h) hv hdg kk
theorem g_put {idx ci k : Nat} {C : String} {T : u_T} {N : Nat} {fs : List Value} {x : Int32} (X : Cx p s m args meth c cc nL own E A) (G : Gw E A s w H locs) (hf : Fl own idx ci k C T N) (ty0 : Nat → FieldType) (hty : ∀ k, k < N → parseFieldDescriptor (T k).2.2.1 = some (ty0 k)) (hnm : ∀ a, a < N → ∀ b, b < N → a ≠ b → (T a).2.1 ≠ (T b).2.1) (q0 : Nat) (he : w[q0]? = some (a, .inr (ci, fs))) (hfin : (T k).2.2.2 = false) (hd : parseFieldDescriptor (T k).2.2.1 = some .int) (hl : k < fs.length) (hdg : decode cc pc = .ok (.putfield idx, 3))
    (kk : ∀ (H1 : Heap) (locs1 : List Loc), Gw E A s (w.set q0 (a, .inr (ci, fs.set k (.int x)))) H1 locs1 → W p l e R s m args below meth c H1 locs1 cells slots Q (F0 m (pc + 3) ls rest)) : W p l e R s m args below meth c H locs cells slots Q (F0 m pc ls (.int x :: .ref a :: rest)) := by
  obtain ⟨hx, hb, hml, hown, hts, hK, hA, hlocks⟩ := X
  obtain ⟨h1, h2, h3, h4⟩ := hf
  exact va_put hx hb hts h3 ty0 hty hnm hown hK G.1 G.2.1 G.2.2 q0 he h1 k h2 (hts _ h4) (fun _ h => h) hfin hd (vp_nar_int x) rfl hl hdg (fun H1 locs1 a1 a2 a3 => kk H1 locs1 ⟨a1, a2, a3⟩)
theorem g_iald {n j : Nat} {f : Nat → Int32} {i : Int32} (X : Cx p s m args meth c cc nL own E A) (G : Gw E A s w H locs) (q0 : Nat) (he : w[q0]? = some (a, .inl (E.2.1, n, .inl f))) (hi : i = nI j) (hj : j < n) (hn : n < 2 ^ 31) (hdg : decode cc pc = .ok (.iaload, 1))
    (kk : W p l e R s m args below meth c H locs cells slots Q (F0 m (pc + 1) ls (.int (f j) :: rest))) : W p l e R s m args below meth c H locs cells slots Q (F0 m pc ls (.int i :: .ref a :: rest)) := by
  obtain ⟨hx, hb, hml, hown, hts, hK, hA, hlocks⟩ := X
  subst hi
  refine va_iald hx hb hK G.1 q0 0 he rfl (vp_in_nI hj hn) hdg ?_
  rw [nI_clamp (Nat.lt_trans hj hn)]
  exact kk
theorem g_zald {n j : Nat} {f : Nat → Int32} {i : Int32} (X : Cx p s m args meth c cc nL own E A) (G : Gw E A s w H locs) (q0 : Nat) (he : w[q0]? = some (a, .inl (E.2.2.1, n, .inl f))) (hi : i = nI j) (hj : j < n) (hn : n < 2 ^ 31) (hdg : decode cc pc = .ok (.baload, 1))
    (kk : W p l e R s m args below meth c H locs cells slots Q (F0 m (pc + 1) ls (.int (f j) :: rest))) : W p l e R s m args below meth c H locs cells slots Q (F0 m pc ls (.int i :: .ref a :: rest)) := by
  obtain ⟨hx, hb, hml, hown, hts, hK, hA, hlocks⟩ := X
  subst hi
  refine va_zald hx hb hK G.1 q0 1 he rfl (vp_in_nI hj hn) hdg ?_
  rw [nI_clamp (Nat.lt_trans hj hn)]
  exact kk
theorem g_iast {n j : Nat} {f : Nat → Int32} {i x : Int32} (X : Cx p s m args meth c cc nL own E A) (G : Gw E A s w H locs) (q0 : Nat) (he : w[q0]? = some (a, .inl (E.2.1, n, .inl f))) (hi : i = nI j) (hj : j < n) (hn : n < 2 ^ 31) (hdg : decode cc pc = .ok (.iastore, 1))
    (kk : ∀ (H1 : Heap) (locs1 : List Loc), Gw E A s (w.set q0 (a, .inl (E.2.1, n, .inl (upd f j x)))) H1 locs1 → W p l e R s m args below meth c H1 locs1 cells slots Q (F0 m (pc + 1) ls rest)) : W p l e R s m args below meth c H locs cells slots Q (F0 m pc ls (.int x :: .int i :: .ref a :: rest)) := by
  obtain ⟨hx, hb, hml, hown, hts, hK, hA, hlocks⟩ := X
  subst hi
  refine va_iast hx hb hK G.1 G.2.1 G.2.2 q0 0 he rfl (vp_in_nI hj hn) hdg (fun H1 locs1 a1 a2 a3 => kk H1 locs1 ?_)
  rw [nI_clamp (Nat.lt_trans hj hn)] at a1 a2
  exact ⟨a1, a2, a3⟩
/-- numbers that are known as naturals -/
theorem n_iadd {x y : Int32} (a b : Nat) (hx' : x = nI a) (hy : y = nI b) (hexec : p.tables.exec = Jvm.exec) (hb : c.code = cc) (hdg : decode cc pc = .ok (.iadd, 1)) (k : W p l e R s m args below meth c H locs cells slots Q (F0 m (pc + 1) ls (.int (nI (a + b)) :: rest))) : W p l e R s m args below meth c H locs cells slots Q (F0 m pc ls (.int y :: .int x :: rest)) := by
  subst hx'; subst hy
  refine lv_iadd hexec hb hdg ?_
  rw [nI_add]; exact k
theorem n_isub {x y : Int32} (a b : Nat) (hx' : x = nI a) (hy : y = nI b) (hab : b ≤ a) (hexec : p.tables.exec = Jvm.exec) (hb : c.code = cc) (hdg : decode cc pc = .ok (.isub, 1)) (k : W p l e R s m args below meth c H locs cells slots Q (F0 m (pc + 1) ls (.int (nI (a - b)) :: rest))) : W p l e R s m args below meth c H locs cells slots Q (F0 m pc ls (.int y :: .int x :: rest)) := by
  subst hx'; subst hy
  refine lv_isub hexec hb hdg ?_
  rw [pk_sub hab]; exact k
theorem n_imul {x y : Int32} (a b : Nat) (hx' : x = nI a) (hy : y = nI b) (hexec : p.tables.exec = Jvm.exec) (hb : c.code = cc) (hdg : decode cc pc = .ok (.imul, 1)) (k : W p l e R s m args below meth c H locs cells slots Q (F0 m (pc + 1) ls (.int (nI (a * b)) :: rest))) : W p l e R s m args below meth c H locs cells slots Q (F0 m pc ls (.int y :: .int x :: rest)) := by
  subst hx'; subst hy
  refine lv_imul hexec hb hdg ?_
  rw [pk_mul]; exact k
theorem n_idiv {x y : Int32} (a b : Nat) (hx' : x = nI a) (hy : y = nI b) (ha : a < 2 ^ 31) (h0 : 0 < b) (hb2 : b < 2 ^ 31) (hexec : p.tables.exec = Jvm.exec) (hb : c.code = cc) (hdg : decode cc pc = .ok (.idiv, 1)) (k : W p l e R s m args below meth c H locs cells slots Q (F0 m (pc + 1) ls (.int (nI (a / b)) :: rest))) : W p l e R s m args below meth c H locs cells slots Q (F0 m pc ls (.int y :: .int x :: rest)) := by
  subst hx'; subst hy
  refine lv_idiv hexec hb hdg (nI_ne0 h0 hb2) ?_
  rw [pk_div ha h0 hb2]; exact k
theorem n_irem {x y : Int32} (a b : Nat) (hx' : x = nI a) (hy : y = nI b) (ha : a < 2 ^ 31) (h0 : 0 < b) (hb2 : b < 2 ^ 31) (hexec : p.tables.exec = Jvm.exec) (hb : c.code = cc) (hdg : decode cc pc = .ok (.irem, 1)) (k : W p l e R s m args below meth c H locs cells slots Q (F0 m (pc + 1) ls (.int (nI (a % b)) :: rest))) : W p l e R s m args below meth c H locs cells slots Q (F0 m pc ls (.int y :: .int x :: rest)) := by
  subst hx'; subst hy
  refine lv_irem hexec hb hdg (nI_ne0 h0 hb2) ?_
  rw [pk_rem ha h0 hb2]; exact k
theorem n_cmp_eq {x y : Int32} (a b : Nat) (hx' : x = nI a) (hy : y = nI b) (ha : a < 2 ^ 31) (hb2 : b < 2 ^ 31) {off : Int} {tgt : Nat} (hexec : p.tables.exec = Jvm.exec) (hb : c.code = cc) (hdg : decode cc pc = .ok (.if_icmp .eq off, 3)) (ht : (pc : Int) + off = (tgt : Int)) (kt : a = b → W p l e R s m args below meth c H locs cells slots Q (F0 m tgt ls rest)) (kf : ¬ a = b → W p l e R s m args below meth c H locs cells slots Q (F0 m (pc + 3) ls rest)) : W p l e R s m args below meth c H locs cells slots Q (F0 m pc ls (.int y :: .int x :: rest)) := by
  subst hx'; subst hy
  exact lv_icmp_eq hexec hb hdg ht (fun h => kt ((nI_eq ha hb2).mp h)) (fun h => kf (fun q => h ((nI_eq ha hb2).mpr q)))
theorem n_cmp_ne {x y : Int32} (a b : Nat) (hx' : x = nI a) (hy : y = nI b) (ha : a < 2 ^ 31) (hb2 : b < 2 ^ 31) {off : Int} {tgt : Nat} (hexec : p.tables.exec = Jvm.exec) (hb : c.code = cc) (hdg : decode cc pc = .ok (.if_icmp .ne off, 3)) (ht : (pc : Int) + off = (tgt : Int)) (kt : ¬ a = b → W p l e R s m args below meth c H locs cells slots Q (F0 m tgt ls rest)) (kf : a = b → W p l e R s m args below meth c H locs cells slots Q (F0 m (pc + 3) ls rest)) : W p l e R s m args below meth c H locs cells slots Q (F0 m pc ls (.int y :: .int x :: rest)) := by
  subst hx'; subst hy
  exact lv_icmp_ne hexec hb hdg ht (fun h => kt (fun q => h ((nI_eq ha hb2).mpr q))) (fun h => kf ((nI_eq ha hb2).mp h))
theorem n_cmp_lt {x y : Int32} (a b : Nat) (hx' : x = nI a) (hy : y = nI b) (ha : a < 2 ^ 31) (hb2 : b < 2 ^ 31) {off : Int} {tgt : Nat} (hexec : p.tables.exec = Jvm.exec) (hb : c.code = cc) (hdg : decode cc pc = .ok (.if_icmp .lt off, 3)) (ht : (pc : Int) + off = (tgt : Int)) (kt : a < b → W p l e R s m args below meth c H locs cells slots Q (F0 m tgt ls rest)) (kf : ¬ a < b → W p l e R s m args below meth c H locs cells slots Q (F0 m (pc + 3) ls rest)) : W p l e R s m args below meth c H locs cells slots Q (F0 m pc ls (.int y :: .int x :: rest)) := by
  subst hx'; subst hy
  exact lv_icmp_lt hexec hb hdg ht (fun h => kt ((nI_ltI ha hb2).mp h)) (fun h => kf (fun q => h ((nI_ltI ha hb2).mpr q)))
theorem n_cmp_ge {x y : Int32} (a b : Nat) (hx' : x = nI a) (hy : y = nI b) (ha : a < 2 ^ 31) (hb2 : b < 2 ^ 31) {off : Int} {tgt : Nat} (hexec : p.tables.exec = Jvm.exec) (hb : c.code = cc) (hdg : decode cc pc = .ok (.if_icmp .ge off, 3)) (ht : (pc : Int) + off = (tgt : Int)) (kt : b ≤ a → W p l e R s m args below meth c H locs cells slots Q (F0 m tgt ls rest)) (kf : ¬ b ≤ a → W p l e R s m args below meth c H locs cells slots Q (F0 m (pc + 3) ls rest)) : W p l e R s m args below meth c H locs cells slots Q (F0 m pc ls (.int y :: .int x :: rest)) := by
  subst hx'; subst hy
  exact lv_icmp_ge hexec hb hdg ht (fun h => kt ((nI_leI hb2 ha).mp h)) (fun h => kf (fun q => h ((nI_leI hb2 ha).mpr q)))
theorem n_cmp_gt {x y : Int32} (a b : Nat) (hx' : x = nI a) (hy : y = nI b) (ha : a < 2 ^ 31) (hb2 : b < 2 ^ 31) {off : Int} {tgt : Nat} (hexec : p.tables.exec = Jvm.exec) (hb : c.code = cc) (hdg : decode cc pc = .ok (.if_icmp .gt off, 3)) (ht : (pc : Int) + off = (tgt : Int)) (kt : b < a → W p l e R s m args below meth c H locs cells slots Q (F0 m tgt ls rest)) (kf : ¬ b < a → W p l e R s m args below meth c H locs cells slots Q (F0 m (pc + 3) ls rest)) : W p l e R s m args below meth c H locs cells slots Q (F0 m pc ls (.int y :: .int x :: rest)) := by
  subst hx'; subst hy
  exact lv_icmp_gt hexec hb hdg ht (fun h => kt ((nI_ltI hb2 ha).mp h)) (fun h => kf (fun q => h ((nI_ltI hb2 ha).mpr q)))
theorem n_cmp_le {x y : Int32} (a b : Nat) (hx' : x = nI a) (hy : y = nI b) (ha : a < 2 ^ 31) (hb2 : b < 2 ^ 31) {off : Int} {tgt : Nat} (hexec : p.tables.exec = Jvm.exec) (hb : c.code = cc) (hdg : decode cc pc = .ok (.if_icmp .le off, 3)) (ht : (pc : Int) + off = (tgt : Int)) (kt : a ≤ b → W p l e R s m args below meth c H locs cells slots Q (F0 m tgt ls rest)) (kf : ¬ a ≤ b → W p l e R s m args below meth c H locs cells slots Q (F0 m (pc + 3) ls rest)) : W p l e R s m args below meth c H locs cells slots Q (F0 m pc ls (.int y :: .int x :: rest)) := by
  subst hx'; subst hy
  exact lv_icmp_le hexec hb hdg ht (fun h => kt ((nI_leI ha hb2).mp h)) (fun h => kf (fun q => h ((nI_leI ha hb2).mpr q)))
end GR
def bI (b : Bool) : Int32 := cond b 1 0
theorem bI_t : bI true = 1 := rfl
theorem bI_f : bI false = 0 := rfl
theorem bI_ne {b : Bool} (h : ¬ bI b = 0) : b = true := by cases b; exact absurd rfl h; rfl
theorem bI_eq {b : Bool} (h : bI b = 0) : b = false := by cases b; rfl; exact absurd h (by decide)
theorem bI_nar (b : Bool) : narrow .boolean (.int (bI b)) = .int (bI b) := by cases b <;> rfl
def oI (o : Option Nat) : Int32 := match o with
  | none => -6
  | some j => nI j
theorem nI_m6 {j : Nat} (h : j < 2 ^ 31) : ¬ nI j = -6 := by
  intro q
  have := nI_pos h
  rw [q] at this
  exact this (by decide)
theorem nI_cz {j : Nat} (h : j < 2 ^ 31) : ¬ nI j < 0 := nI_pos h
section GB
variable {p : Program} {l : Launch} {e : Env} {R : Room} {s : State} {m : MethodId} {args : Array Value} {below : List Frame} {meth : Method} {c : Code} {H : Heap} {locs : List Loc} {cells slots : Nat} {Q : State → Prop}
variable {cc : ByteArray} {pc : Nat} {ls : Array Slot} {rest : List Value}
theorem b_ifeq {b : Bool} {off : Int} {tgt : Nat} (hexec : p.tables.exec = Jvm.exec) (hb : c.code = cc) (hdg : decode cc pc = .ok (.ifCond .eq off, 3)) (ht : (pc : Int) + off = (tgt : Int)) (kt : b = false → W p l e R s m args below meth c H locs cells slots Q (F0 m tgt ls rest)) (kf : b = true → W p l e R s m args below meth c H locs cells slots Q (F0 m (pc + 3) ls rest)) : W p l e R s m args below meth c H locs cells slots Q (F0 m pc ls (.int (bI b) :: rest)) :=
  lv_if_eq hexec hb hdg ht (fun h => kt (bI_eq h)) (fun h => kf (bI_ne h))
theorem b_ifne {b : Bool} {off : Int} {tgt : Nat} (hexec : p.tables.exec = Jvm.exec) (hb : c.code = cc) (hdg : decode cc pc = .ok (.ifCond .ne off, 3)) (ht : (pc : Int) + off = (tgt : Int)) (kt : b = true → W p l e R s m args below meth c H locs cells slots Q (F0 m tgt ls rest)) (kf : b = false → W p l e R s m args below meth c H locs cells slots Q (F0 m (pc + 3) ls rest)) : W p l e R s m args below meth c H locs cells slots Q (F0 m pc ls (.int (bI b) :: rest)) :=
  lv_if_ne hexec hb hdg ht (fun h => kt (bI_ne h)) (fun h => kf (bI_eq h))
end GB
/-! the world of a box: its object, its rules, its bindings, its packets; st k: row k (0 rules, 1 inner, 2 is, 3 used, 4 onlyRemote, 5 onlyPort, 6 sentBits, 7 knownBy, 8 knownSince, 9 held, 10 heldSince; 11: time at place 0) -/
abbrev St : Type := Nat → Nat → Int32
def sU (st : St) (k i : Nat) (v : Int32) : St := fun k' => cond (Nat.beq k' k) (upd (st k) i v) (st k')
theorem sU_at (st : St) (k i : Nat) (v : Int32) (k' i' : Nat) : sU st k i v k' i' = if k' = k ∧ i' = i then v else st k' i' := by
  unfold sU
  by_cases h : k' = k
  · subst h
    rw [show Nat.beq k' k' = true from Nat.beq_refl k']
    show upd (st k') i v i' = _
    unfold upd
    by_cases h2 : i' = i
    · rw [if_pos h2, if_pos ⟨rfl, h2⟩]
    · rw [if_neg h2, if_neg (fun q => h2 q.2)]
  · rw [if_neg (fun q => h q.1)]
    cases hb : Nat.beq k' k with
    | true => exact absurd (Nat.eq_of_beq_eq_true hb) h
    | false => rfl
abbrev wB (E : EE) (a : Nat → Nat) (st : St) (w : va_W) : va_W :=
  (a 0, .inr (1, [.ref (a 1), .ref (a 2), .ref (a 3), .int (st 11 0)])) :: (a 1, .inl (E.2.1, 6, .inl (st 0))) :: (a 2, .inr (0, [.ref (a 4), .ref (a 5), .ref (a 6), .ref (a 7), .ref (a 8), .ref (a 9)])) :: (a 3, .inr (2, [.ref (a 10), .ref (a 11), .ref (a 12), .ref (a 13)])) :: (a 4, .inl (E.2.1, 16, .inl (st 1))) :: (a 5, .inl (E.2.1, 16, .inl (st 2))) :: (a 6, .inl (E.2.1, 16, .inl (st 3))) :: (a 7, .inl (E.2.1, 16, .inl (st 4))) :: (a 8, .inl (E.2.1, 16, .inl (st 5))) :: (a 9, .inl (E.2.1, 80, .inl (st 6))) :: (a 10, .inl (E.2.1, 32, .inl (st 7))) :: (a 11, .inl (E.2.1, 32, .inl (st 8))) :: (a 12, .inl (E.2.1, 6, .inl (st 9))) :: (a 13, .inl (E.2.1, 6, .inl (st 10))) :: w
/-- the world of the reference: its object, its numbers, its images, which are kept -/
abbrev wM (E : EE) (a : Nat → Nat) (st : St) (w : va_W) : va_W :=
  (a 0, .inr (4, [.ref (a 1), .ref (a 2), .ref (a 3)])) :: (a 1, .inl (E.2.1, 503, .inl (st 0))) :: (a 2, .inl (E.2.1, 1006, .inl (st 1))) :: (a 3, .inl (E.2.2.1, 2, .inl (st 2))) :: w
