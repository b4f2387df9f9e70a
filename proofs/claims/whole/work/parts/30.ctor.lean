def f6 (j : Nat) : Int32 := match j with
  | 3 => 4
  | 4 => 20
  | 5 => 2
  | _ => 0
def ZF (A : Nat → Prop) (U : State) : Prop := ∃ (t0 : Nat) (cell : Cell), va_Z "BoxBindings" "RULE_FIRST" "[I" (.ref t0) A U U.heap ∧ U.heap[t0]? = some cell ∧ ¬ A t0 ∧ cell.vm.isStatics = false ∧ cell.vm ≠ .unknown ∧ U.vm.findClass "[I" = some cell.cls ∧ cell.slots.size = 6 ∧ ∀ j : Nat, j < 6 → cell.slots[j]? = some (.int (f6 j))
def ZI (A : Nat → Prop) (U : State) : Prop := ZF A U ∧ va_Nw (.methodLinkNest "BoxBindings" 9 yX1_init "BoxBindings") U ∧ va_Nw (.fieldLinkNest "BoxBindings$Box" 9 "BoxBindings" "RULE_FIRST" "[I" "BoxBindings") U ∧ va_Nw (.castable "[I" "java/lang/Cloneable") U ∧ va_AO "BoxBindings$Box" U
theorem ZF_tr {A A' : Nat → Prop} {s U : State} (hvm : s.vm.Alike U.vm) (hAA : ∀ q, A' q → A q) (hq : ∀ a : Nat, a < s.heap.size → ¬ A a → U.heap[a]? = s.heap[a]?) (h : ZF A s) : ZF A' U := by
  obtain ⟨t0, cell, z1, z2, z3, z4, z5, z6, z7, z8⟩ := h
  refine ⟨t0, cell, ((z1.kept hq).narrow hAA).moved hvm, ?_, fun q => z3 (hAA _ q), z4, z5, ?_, z7, z8⟩
  · rw [hq t0 (Array.getElem?_eq_some_iff.mp z2).1 z3]; exact z2
  · rw [hvm.findClass]; exact z6
theorem ZI_tr {A A' : Nat → Prop} {s U : State} (hW : s.WarmedH U.vm) (hAA : ∀ q, A' q → A q) (hq : ∀ a : Nat, a < s.heap.size → ¬ A a → U.heap[a]? = s.heap[a]?) (h : ZI A s) : ZI A' U := by
  obtain ⟨h1, h2, h3, h4, h5⟩ := h
  exact ⟨ZF_tr hW.alike hAA hq h1, va_Nw.warmM hW h2, va_Nw.warmF hW h3, va_Nw.warmC hW h4, va_AO.moved hW.alike h5⟩
theorem ZI_call {A : Nat → Prop} {U : State} {g : JFrame} {mk : MethodId} {a : Array Value} (h : ZI A U) : ZI A (U.calling g mk a) := by
  obtain ⟨h1, h2, h3, h4, h5⟩ := h
  exact ⟨ZF_tr (s := U) (U := U.calling g mk a) (Vm.Alike.refl U.vm) (fun _ q => q) (fun _ _ _ => rfl) h1, va_Nw.same rfl (rfl : U.vm = (U.calling g mk a).vm) h2, va_Nw.same rfl (rfl : U.vm = (U.calling g mk a).vm) h3, va_Nw.same rfl (rfl : U.vm = (U.calling g mk a).vm) h4, va_AO.moved (u := U) (U := U.calling g mk a) (Vm.Alike.refl U.vm) h5⟩
def rmC (d mc ms : Nat) : Room := { frames := d, cells := mc, slots := ms, locals := 27 * d }
def CiQ (E : EE) (A : Nat → Prop) (B : va_W → Prop) : Array Value → State → Outcome → State → Prop := va_Qv (fun (_ : Unit) => True) (fun _ t => ∃ w', B w' ∧ va_P E.1 classes w' t.heap ∧ KK E t ∧ va_D A w') A
/-- a constructor: the world w becomes one of which B is said; mc cells of ms slots come -/
def Ci (l : Launch) (y : MethodName) (cc : ByteArray) (n d mc ms : Nat) (E : EE) (av : List Value) (w : va_W) (B : va_W → Prop) : Prop :=
  ∀ sz, Met l y (wY y cc n none) (rmC d mc ms) (fun v U => CtP E sz av w v U ∧ ZI (va_A w sz) U) (CiQ E (va_A w sz) B) mc ms (va_A w sz)
theorem Ci_mk {l : Launch} {y : MethodName} {cc : ByteArray} {n d mc ms : Nat} {E : EE} {av : List Value} {w : va_W} {B : va_W → Prop} (own : String) (ho : y.cls = own) (hy : plainName y.cls = true) (hn : (lg_sl av).length ≤ n)
    (body : ∀ (p : Program) (e : Env) (s : State) (m : MethodId) (below : List Frame) (meth : Method) (c : Code) (A : Nat → Prop) (ls : Array Slot), Cx p s m av.toArray meth c cc n own E A → meth.sig.returnType = none → meth.name = y.name → Gw E A s w s.heap [] → lv_has ls n (lv_args 0 av) → ZI A s → W p l e (rmC d mc ms) s m av.toArray below meth c s.heap [] 0 0 (MQ below (CiQ E A B) av.toArray s mc ms A) (F0 m 0 ls [])) : Ci l y cc n d mc ms E av w B := by
  intro sz
  refine Met.ofW (cc := cc) (maxL := n) (ret := none) hy rfl ?_
  intro p e s m args below meth c s₁ Bd hml hv
  obtain ⟨⟨rfl, hsz, hP, hK, hD0⟩, hZ⟩ := hv
  subst hsz
  subst ho
  have hl := lv_entry av (n := n) hn
  rw [lg_entry_eq]
  exact body p e s m below meth c _ _ ⟨Bd.exec, Bd.bytes, hml, findClass_of_methodNamed Bd.named, fun w hw => atoms_spec (ws := wY y cc n none) Bd.pre w (List.mem_cons_of_mem _ hw), hK, fun q h => Or.inr h, Bd.notSynchronized⟩ Bd.returns (name_of_methodNamed Bd.named Bd.method).1 ⟨hP, hD0.self, va_S.rf⟩ hl hZ
section GI
variable {p : Program} {l : Launch} {e : Env} {R : Room} {s : State} {m : MethodId} {args : Array Value} {below : List Frame} {meth : Method} {c : Code} {H : Heap} {locs : List Loc} {cells slots : Nat} {Q : State → Prop}
variable {cc : ByteArray} {nL : Nat} {own : String} {E : EE} {A : Nat → Prop} {w w' : va_W} {pc : Nat} {ls : Array Slot} {rest stk : List Value} {a : Nat}
theorem g_cret {B : va_W → Prop} (X : Cx p s m args meth c cc nL own E A) (hr : meth.sig.returnType = none) (G : Gw E A s w H locs) (hB : B w) (hdg : decode cc pc = .ok (.return_, 1)) : W p l e R s m args below meth c H locs cells slots (MQ below (CiQ E A B) args s cells slots A) (F0 m pc ls []) := by
  obtain ⟨hx, hb, hml, hown, hts, hK, hA, hlocks⟩ := X
  exact W.vret hx hb hr (fun t ht hW => ⟨⟨(), rfl, trivial, w, hB, by rw [ht]; exact G.1, va_K.moved hW.alike hK, G.2.1⟩, G.2.2.F ht⟩) G.2.2.2.2 hdg hlocks
theorem g_obj {idx : Nat} (X : Cx p s m args meth c cc nL own E A) (h1 : Cond.methodLink own idx objectInit ∈ gT) (h2 : Cond.instanceMethod objectInit ∈ gT) (h3 : Cond.code objectInit ⟨#[0xb1]⟩ 1 none ∈ gT) (hls : ls.size = nL) (hf : 1 ≤ R.frames) (hlo : (rest.map fun v => v.category).sum + 12 ≤ R.locals) (hdg : decode cc pc = .ok (.invokespecial idx, 3))
    (kk : W p l e R s m args below meth c H locs cells slots Q (F0 m (pc + 3) ls rest)) : W p l e R s m args below meth c H locs cells slots Q (F0 m pc ls (.ref a :: rest)) := by
  obtain ⟨hx, hb, hml, hown, hts, hK, hA, hlocks⟩ := X
  refine W.objInit hx hb hown (hts _ h1) (hts _ h2) (hts _ h3) rfl (by rw [hml]; exact hls) rfl hdg hf (by show 2 * 0 + _ + 12 ≤ _; omega) ?_
  exact kk
theorem g_newi {n : Nat} {i : Int32} (X : Cx p s m args meth c cc nL own E A) (G : Gw E A s w H locs) (harr : Cond.arrayClass .int ∈ gT) (hi : i = nI n) (hn : n < 100000) (hc : cells + 1 ≤ R.cells) (hs : slots + n ≤ R.slots) (hdg : decode cc pc = .ok (.newarray .int, 2))
    (kk : ∀ (q : Nat) (H1 : Heap), Gw E A s ((q, .inl (E.2.1, n, .inl (fun _ => 0))) :: w) H1 locs → W p l e R s m args below meth c H1 locs (cells + 1) (slots + n) Q (F0 m (pc + 2) ls (.ref q :: rest))) : W p l e R s m args below meth c H locs cells slots Q (F0 m pc ls (.int i :: rest)) := by
  obtain ⟨hx, hb, hml, hown, hts, hK, hA, hlocks⟩ := X
  subst hi
  refine va_newa (atype := .int) (ty := .int) (a0 := (n, .inl (fun _ => 0))) hx hb (hts _ harr) rfl hK G.1 G.2.1 G.2.2 hA (fun _ => rfl) (nI_pos (by omega)) (nI_clamp (by omega)) (by show n * 4 ≤ _; omega) hc hs hdg (fun q cA H1 k1 k2 k3 k4 => ?_)
  have e : cA = E.2.1 := Option.some.inj ((k1.2 3 _ rfl).2.symm.trans (hK.2 0 _ rfl).2)
  subst e
  exact kk q H1 (Gw_perm (List.perm_append_singleton _ _) ⟨k2, k3, k4⟩)
theorem g_newz {n : Nat} {i : Int32} (X : Cx p s m args meth c cc nL own E A) (G : Gw E A s w H locs) (harr : Cond.arrayClass .boolean ∈ gT) (hi : i = nI n) (hn : n < 100000) (hc : cells + 1 ≤ R.cells) (hs : slots + n ≤ R.slots) (hdg : decode cc pc = .ok (.newarray .boolean, 2))
    (kk : ∀ (q : Nat) (H1 : Heap), Gw E A s ((q, .inl (E.2.2.1, n, .inl (fun _ => 0))) :: w) H1 locs → W p l e R s m args below meth c H1 locs (cells + 1) (slots + n) Q (F0 m (pc + 2) ls (.ref q :: rest))) : W p l e R s m args below meth c H locs cells slots Q (F0 m pc ls (.int i :: rest)) := by
  obtain ⟨hx, hb, hml, hown, hts, hK, hA, hlocks⟩ := X
  subst hi
  refine va_newa (atype := .boolean) (ty := .boolean) (a0 := (n, .inl (fun _ => 0))) hx hb (hts _ harr) rfl hK G.1 G.2.1 G.2.2 hA (fun _ => rfl) (nI_pos (by omega)) (nI_clamp (by omega)) (by show n * 1 ≤ _; omega) hc hs hdg (fun q cA H1 k1 k2 k3 k4 => ?_)
  have e : cA = E.2.2.1 := Option.some.inj ((k1.2 3 _ rfl).2.symm.trans (hK.2 1 _ rfl).2)
  subst e
  exact kk q H1 (Gw_perm (List.perm_append_singleton _ _) ⟨k2, k3, k4⟩)
theorem g_newo {idx ci : Nat} {C : String} {T : u_T} {N : Nat} {fs : List Value} (ty : Nat → FieldType) (hty : ∀ k, k < N → parseFieldDescriptor (T k).2.2.1 = some (ty k)) (X : Cx p s m args meth c cc nL own E A) (G : Gw E A s w H locs) (hu : ∀ w ∈ u_ws C T N, w ∈ gT) (h1 : Cond.classLink own idx C ∈ gT) (h2 : Cond.instantiable C N ∈ gT) (h3 : Cond.initialized C ∈ gT) (hcl : classes[ci]? = some (C, T, N)) (hfs : ∀ j, j < N → defaultValue (ty j) = vp_V fs j) (hc : cells + 1 ≤ R.cells) (hs : slots + N ≤ R.slots) (hdg : decode cc pc = .ok (.new idx, 3))
    (kk : ∀ (q : Nat) (H1 : Heap), Gw E A s ((q, .inr (ci, fs)) :: w) H1 locs → W p l e R s m args below meth c H1 locs (cells + 1) (slots + N) Q (F0 m (pc + 3) ls (.ref q :: rest))) : W p l e R s m args below meth c H locs cells slots Q (F0 m pc ls rest) := by
  obtain ⟨hx, hb, hml, hown, hts, hK, hA, hlocks⟩ := X
  exact va_new hx hb hts hu ty hty hown (hts _ h1) (hts _ h2) (hts _ h3) hK G.1 G.2.1 G.2.2 hA hcl hfs hc hs hdg (fun q H1 k2 k3 k4 => kk q H1 (Gw_perm (List.perm_append_singleton _ _) ⟨k2, k3, k4⟩))
theorem g_putF {idx ci k b : Nat} {C : String} {T : u_T} {N : Nat} {fs : List Value} {ty : FieldType} (X : Cx p s m args meth c cc nL own E A) (G : Gw E A s w H locs) (hf : Fl own idx ci k C T N) (ty0 : Nat → FieldType) (hty : ∀ k, k < N → parseFieldDescriptor (T k).2.2.1 = some (ty0 k)) (hnm : ∀ a, a < N → ∀ b, b < N → a ≠ b → (T a).2.1 ≠ (T b).2.1) (hin : meth.name = "<init>") (q0 : Nat) (he : w[q0]? = some (a, .inr (ci, fs))) (hfin : (T k).2.2.2 = true) (hdecl : (T k).1 = own) (hd : parseFieldDescriptor (T k).2.2.1 = some ty) (hn : narrow ty (.ref b) = .ref b) (hfit : fits ty (.ref b) = true) (hl : k < fs.length) (hdg : decode cc pc = .ok (.putfield idx, 3))
    (kk : ∀ (H1 : Heap) (locs1 : List Loc), Gw E A s (w.set q0 (a, .inr (ci, fs.set k (.ref b)))) H1 locs1 → W p l e R s m args below meth c H1 locs1 cells slots Q (F0 m (pc + 3) ls rest)) : W p l e R s m args below meth c H locs cells slots Q (F0 m pc ls (.ref b :: .ref a :: rest)) := by
  obtain ⟨hx, hb, hml, hown, hts, hK, hA, hlocks⟩ := X
  obtain ⟨h1, h2, h3, h4⟩ := hf
  exact va_putF hx hb hts h3 ty0 hty hnm hown hK G.1 G.2.1 G.2.2 q0 he h1 k h2 (hts _ h4) (fun _ h => h) hfin hin hdecl hd hn hfit hl hdg (fun H1 locs1 a1 a2 a3 => kk H1 locs1 ⟨a1, a2, a3⟩)
theorem g_callSv {y2 : MethodName} {cc2 : ByteArray} {n2 : Nat} {d2 k : Nat} {idx : Nat} {As : List Value} (X : Cx p s m args meth c cc nL own E A) (hc : CalS own idx y2 cc2 n2 none k) (hM : Cv l y2 cc2 n2 d2 E As w w') (G : Gw E A s w H locs) (hR : d2 + 1 ≤ R.frames ∧ 8 + (n2 + 11) + 27 * d2 ≤ R.locals) (hf : cells ≤ R.cells ∧ slots ≤ R.slots) (hlen : As.length = k) (hls : ls.size = nL) (hst : stk = As.reverse ++ rest) (hroom : (rest.map fun v => v.category).sum ≤ 8) (hdg : decode cc pc = .ok (.invokestatic idx, 3))
    (kk : ∀ (H1 : Heap) (locs1 : List Loc), Gw E A s w' H1 locs1 → W p l e R s m args below meth c H1 locs1 cells slots Q (F0 m (pc + 3) ls rest)) : W p l e R s m args below meth c H locs cells slots Q (F0 m pc ls stk) := by
  obtain ⟨hx, hb, hml, hown, hts, hK, hA, hlocks⟩ := X
  have hF := g_frame G hA
  obtain ⟨hP, hD, hS⟩ := G
  refine va_callv (va_runS (As := As) (rest := rest) ⟨hx, hb, hml, hown, hts⟩ (hM H.size) (va_cwS k hts (gT_goodS hc.1) rfl rfl rfl hc.2 hR) ⟨CtP_blind, fun U hU hW => ⟨rfl, by rw [hU], by rw [hU]; exact hP, va_K.moved hW.alike hK, hD.weaken (fun _ _ _ _ => trivial)⟩⟩ rfl hlen hls hst (lv_room hroom) hdg hf) hS (fun q _ h => hF q h) hF (fun u t H1 locs1 ht hvm hw hB hz1 hk1 hS1 => ?_)
  exact kk H1 locs1 ⟨by rw [← ht]; exact hB.1, hB.2.2.weaken (fun _ _ _ h => hF _ h), hS1⟩
theorem gT_goodI {y : MethodName} {cc : ByteArray} {n : Nat} {ret : Option FieldType} (h : Cond.code y cc n ret ∈ gT) : GoodIn gT (wY y cc n ret) := by
  intro w hw
  have hg : w ∈ gT := by
    rcases List.mem_cons.mp hw with rfl | hw
    · exact h
    · exact hw
  exact ⟨hg, gT_ok hg⟩
theorem g_callI {y2 : MethodName} {cc2 : ByteArray} {n2 : Nat} {d2 mc ms : Nat} {idx b : Nat} {B : va_W → Prop} (X : Cx p s m args meth c cc nL own E A) (hZ : ZI A s) (h1 : Cond.methodLink own idx y2 ∈ gT) (h2 : Cond.instanceMethod y2 ∈ gT) (h3 : Cond.initialized y2.cls ∈ gT) (h4 : Cond.code y2 cc2 n2 none ∈ gT) (hi : y2.name = "<init>") (hd : y2.cls ≠ "java/lang/invoke/MethodHandle" ∧ y2.cls ≠ "java/lang/invoke/VarHandle" ∧ (parseMethodDescriptor y2.desc).map (fun d => d.parameters.length) = some 0) (hM : Ci l y2 cc2 n2 d2 mc ms E [.ref b] w B) (G : Gw E A s w H locs) (hR : d2 + 1 ≤ R.frames ∧ 8 + (n2 + 11) + 27 * d2 ≤ R.locals) (hf : cells + mc ≤ R.cells ∧ slots + ms ≤ R.slots) (hls : ls.size = nL) (hroom : (rest.map fun v => v.category).sum ≤ 8) (hdg : decode cc pc = .ok (.invokespecial idx, 3))
    (kk : ∀ (H1 : Heap) (locs1 : List Loc) (w' : va_W), B w' → Gw E A s w' H1 locs1 → W p l e R s m args below meth c H1 locs1 (cells + mc) (slots + ms) Q (F0 m (pc + 3) ls rest)) : W p l e R s m args below meth c H locs cells slots Q (F0 m pc ls (.ref b :: rest)) := by
  obtain ⟨hx, hb, hml, hown, hts, hK, hA, hlocks⟩ := X
  have hF := g_frame G hA
  obtain ⟨hP, hD, hS⟩ := G
  refine va_callv (va_runI (As := []) (rest := rest) ⟨hx, hb, hml, hown, hts⟩ (hM H.size) (cwI 0 hts (gT_goodI h4) rfl rfl rfl (hts _ h3) (hts _ h1) (hts _ h2) hi hd hR) ⟨fun a U g mk q => ⟨CtP_blind a U g mk q.1, ZI_call q.2⟩, fun U hU hW => ⟨⟨rfl, by rw [hU], by rw [hU]; exact hP, va_K.moved hW.alike hK, hD.weaken (fun _ _ _ _ => trivial)⟩, ZI_tr hW hF (fun a h1 h2 => by rw [hU]; exact hS.2.1 a h1 h2) hZ⟩⟩ rfl rfl hls rfl (lv_room hroom) hdg hf) hS (fun q _ h => hF q h) hF (fun u t H1 locs1 ht hvm hw hB hz1 hk1 hS1 => ?_)
  obtain ⟨w', b1, b2, b3, b4⟩ := hB
  exact kk H1 locs1 w' b1 ⟨by rw [← ht]; exact b2, b4.weaken (fun _ _ _ h => hF _ h), hS1⟩
theorem g_callIN {y2 : MethodName} {cc2 : ByteArray} {n2 : Nat} {d2 mc ms : Nat} {idx b : Nat} {host : String} {B : va_W → Prop} (X : Cx p s m args meth c cc nL own E A) (hZ : ZI A s) (h1 : va_Nw (.methodLinkNest own idx y2 host) s) (h2 : Cond.instanceMethod y2 ∈ gT) (h3 : Cond.initialized y2.cls ∈ gT) (h4 : Cond.code y2 cc2 n2 none ∈ gT) (hi : y2.name = "<init>") (hd : y2.cls ≠ "java/lang/invoke/MethodHandle" ∧ y2.cls ≠ "java/lang/invoke/VarHandle" ∧ (parseMethodDescriptor y2.desc).map (fun d => d.parameters.length) = some 0) (hM : Ci l y2 cc2 n2 d2 mc ms E [.ref b] w B) (G : Gw E A s w H locs) (hR : d2 + 1 ≤ R.frames ∧ 8 + (n2 + 11) + 27 * d2 ≤ R.locals) (hf : cells + mc ≤ R.cells ∧ slots + ms ≤ R.slots) (hls : ls.size = nL) (hroom : (rest.map fun v => v.category).sum ≤ 8) (hdg : decode cc pc = .ok (.invokespecial idx, 3))
    (kk : ∀ (H1 : Heap) (locs1 : List Loc) (w' : va_W), B w' → Gw E A s w' H1 locs1 → W p l e R s m args below meth c H1 locs1 (cells + mc) (slots + ms) Q (F0 m (pc + 3) ls rest)) : W p l e R s m args below meth c H locs cells slots Q (F0 m pc ls (.ref b :: rest)) := by
  obtain ⟨hx, hb, hml, hown, hts, hK, hA, hlocks⟩ := X
  have hF := g_frame G hA
  obtain ⟨hP, hD, hS⟩ := G
  refine va_callv (va_runIN (As := []) (rest := rest) ⟨hx, hb, hml, hown, hts⟩ (hM H.size) ⟨va_cnB 0 hts (gT_goodI h4) rfl rfl rfl h1 (hts _ h3) hd hR, hi, hts _ h2⟩ ⟨fun a U g mk q => ⟨CtP_blind a U g mk q.1, ZI_call q.2⟩, fun U hU hW => ⟨⟨rfl, by rw [hU], by rw [hU]; exact hP, va_K.moved hW.alike hK, hD.weaken (fun _ _ _ _ => trivial)⟩, ZI_tr hW hF (fun a h1 h2 => by rw [hU]; exact hS.2.1 a h1 h2) hZ⟩⟩ rfl rfl hls rfl (lv_room hroom) hdg hf) hS (fun q _ h => hF q h) hF (fun u t H1 locs1 ht hvm hw hB hz1 hk1 hS1 => ?_)
  obtain ⟨w', b1, b2, b3, b4⟩ := hB
  exact kk H1 locs1 w' b1 ⟨by rw [← ht]; exact b2, b4.weaken (fun _ _ _ h => hF _ h), hS1⟩
/-- clone() of a static array: a new array of the same ints -/
theorem g_clone {idx t0 : Nat} {cell : Cell} {f : Nat → Int32} (X : Cx p s m args meth c cc nL own E A) (G : Gw E A s w H locs) (hcl : va_Nw (.castable "[I" "java/lang/Cloneable") s) (h1 : Cond.methodLink own idx ⟨"[I", "clone", "()Ljava/lang/Object;"⟩ ∈ gT) (h2 : Cond.sameMethod "[I" "java/lang/Object" "clone" "()Ljava/lang/Object;" ∈ gT) (h3 : Cond.native ⟨"java/lang/Object", "clone", "()Ljava/lang/Object;"⟩ ∈ gT) (h4 : Cond.instanceMethod ⟨"java/lang/Object", "clone", "()Ljava/lang/Object;"⟩ ∈ gT) (h5 : Cond.selects "[I" ⟨"[I", "clone", "()Ljava/lang/Object;"⟩ ⟨"java/lang/Object", "clone", "()Ljava/lang/Object;"⟩ ∈ gT)
    (z2 : s.heap[t0]? = some cell) (z3 : ¬ A t0) (z4 : cell.vm.isStatics = false) (z5 : cell.vm ≠ .unknown) (z6 : s.vm.findClass "[I" = some cell.cls) (z7 : cell.slots.size = 6) (z8 : ∀ j : Nat, j < 6 → cell.slots[j]? = some (.int (f j)))
    (hls : ls.size = nL) (hframes : 1 ≤ R.frames) (hlocals : (rest.map fun v => v.category).sum + 14 ≤ R.locals) (hc : cells + 1 ≤ R.cells) (hs : slots + 6 ≤ R.slots) (hdg : decode cc pc = .ok (.invokevirtual idx, 3))
    (kk : ∀ (q : Nat) (H1 : Heap), Gw E A s ((q, .inl (E.2.1, 6, .inl f)) :: w) H1 locs → W p l e R s m args below meth c H1 locs (cells + 1) (slots + 6) Q (F0 m (pc + 3) ls (.ref q :: rest))) : W p l e R s m args below meth c H locs cells slots Q (F0 m pc ls (.ref t0 :: rest)) := by
  obtain ⟨hx, hb, hml, hown, hts, hK, hA, hlocks⟩ := X
  obtain ⟨hP, hD, hS⟩ := G
  have hcI : cell.cls = E.2.1 := by
    have e := va_nm_int (hK.2 0 _ rfl).2
    exact Option.some.inj (z6.symm.trans e)
  have hcellE : ({ cls := cell.cls, slots := cell.slots } : Cell) = vp_cell E.2.1 (6, .inl f) := by
    rw [hcI, vp_cell_i]
    show ({ cls := E.2.1, slots := cell.slots, vm := .none } : Cell) = { cls := E.2.1, slots := (arrV E.2.1 6 fun j => .int (f j)).slots, vm := .none }
    congr 1
    apply Array.ext_getElem?
    intro i
    by_cases hi : i < 6
    · rw [z8 i hi, arrV_read _ _ hi]
    · rw [Array.getElem?_eq_none (by omega), Array.getElem?_eq_none (by rw [arrV_size]; omega)]
  obtain ⟨c0, tC, f1, f2, f3⟩ := Cond.castable_spec (va_Nw.use (A := args) rfl hcl)
  cases z6.symm.trans f1
  intro T hT X
  have hcellT : T.heap[t0]? = some cell := by
    rw [hT, hS.2.1 t0 (Array.getElem?_eq_some_iff.mp z2).1 z3]
    exact z2
  obtain ⟨-, kA, hkA, comp, hkind⟩ := State.isArrayOf_alike X.warmed.alike ((hK.2 0 _ rfl).1 0 (fun _ => .null))
  obtain ⟨-, kS, hkS, compS, hkindS⟩ := (hK.2 0 _ rfl).1 0 (fun _ => .null)
  obtain ⟨vm', X', st⟩ := X.cloneArray hx hown (hts _ h1) (hts _ h2) (hts _ h3) (hts _ h4) (hts _ h5) (a := t0) (cell := cell) hcellT (fun k h => by rw [h] at z4; cases z4) z5 f1 f2 f3
    (fun i v hv => by
      rw [hcI]
      have hk' : T.vm.classes[E.2.1]? = some kA := hkA
      have hi : i < 6 := by
        rcases Nat.lt_or_ge i 6 with q | q
        · exact q
        · rw [Array.getElem?_eq_none (by omega)] at hv
          cases hv
      rw [z8 i hi] at hv
      cases hv
      simp [State.fitsSlot, State.slotType?, hk', hkind]
      rfl)
    (g := F0 m pc ls (.ref t0 :: rest)) rfl (by rw [hml]; exact hls) rfl (by rw [hb]; exact hdg) hframes (by show 2 * 0 + _ + 14 ≤ _; omega) hc (by rw [z7]; exact hs) (hloader := by rw [hcI]; exact Vm.clonesLoader_of_array hkS hkindS)
  rw [hcellE, z7] at X'
  generalize hH1 : H.push (vp_cell E.2.1 (6, .inl f)) = H1
  have z1 : H1.size = H.size + 1 := by rw [← hH1, Array.size_push]
  have e1 : H1[H.size]? = some (vp_cell E.2.1 (6, .inl f)) := by rw [← hH1, Array.getElem?_push_size]
  have o1 : ∀ q : Nat, q < H.size → H1[q]? = H[q]? := fun q hq => by rw [← hH1, Array.getElem?_push, if_neg (Nat.ne_of_lt hq)]
  have hk : ∀ (k : Nat) (y : Nat × va_E), w[k]? = some y → H1[y.1]? = H[y.1]? := fun k y hy => o1 y.1 ((hP k y hy).lt)
  obtain ⟨t, b1, b2⟩ := kk H.size H1 (Gw_perm (List.perm_append_singleton _ _) ⟨(hP.kept hk).app (fun k y hy => by
      have hz : k < 1 := (List.getElem?_eq_some_iff.mp hy).1
      rw [show k = 0 by omega] at hy
      cases hy
      exact e1), hD.push hP rfl (hA _ hS.1), ⟨Nat.le_trans hS.1 (by omega), fun y h1 h2 => (o1 y (Nat.lt_of_lt_of_le h1 hS.1)).trans (hS.2.1 y h1 h2), hS.2.2⟩⟩)
    ((T.setVm vm').pushCell (vp_cell E.2.1 (6, .inl f))) (by rw [← hH1, ← hT]; rfl) X'
  refine ⟨t, st t ?_, b2⟩
  rw [hcellE, hT]
  exact b1
end GI
