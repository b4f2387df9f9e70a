def ZZ (A : Nat → Prop) (U : State) : Prop := ∃ t1 t2 : Nat, va_Z "BoxBindings" "RULE_LEAST" "[I" (.ref t1) A U U.heap ∧ va_T .int t1 6 (fun j => .int (nI (leastN j))) A U U.heap ∧ va_Z "BoxBindings" "RULE_MOST" "[I" (.ref t2) A U U.heap ∧ va_T .int t2 6 (fun j => .int (nI (mostN j))) A U U.heap
def xRule (st : St) (what v : Int32) : Int32 × St := if frB what 0 5 = false then (-2, st) else if frB v (nI (leastN (cl what))) (nI (mostN (cl what))) = false then (-2, st) else (st 0 (cl what), setRuleC st (cl what) v)
def CtZ (l : Launch) (y : MethodName) (cc : ByteArray) (n : Nat) (ret : Option FieldType) (d : Nat) (E : EE) (av : List Value) (w : va_W) (r : Int32) (w' : va_W) : Prop :=
  ∀ sz, Met l y (wY y cc n ret) (rmD d) (fun v U => CtP E sz av w v U ∧ ZZ (va_A w sz) U) (CtQ E (va_A w sz) r w') 0 0 (va_A w sz)
theorem ZZ_moved {A : Nat → Prop} {u U : State} (hvm : u.vm.Alike U.vm) (hh : U.heap = u.heap) (h : ZZ A u) : ZZ A U := by
  obtain ⟨t1, t2, z1, z2, z3, z4⟩ := h
  refine ⟨t1, t2, ?_, ?_, ?_, ?_⟩
  · rw [hh]; exact z1.moved hvm
  · rw [hh]; exact z2.moved hvm
  · rw [hh]; exact z3.moved hvm
  · rw [hh]; exact z4.moved hvm
theorem CtZ_mk {l : Launch} {y : MethodName} {cc : ByteArray} {n : Nat} {ret : Option FieldType} {d : Nat} {E : EE} {av : List Value} {w : va_W} {r : Int32} {w' : va_W} (own : String) (ho : y.cls = own) (hy : plainName y.cls = true) (hn : (lg_sl av).length ≤ n)
    (body : ∀ (p : Program) (e : Env) (s : State) (m : MethodId) (below : List Frame) (meth : Method) (c : Code) (A : Nat → Prop) (ls : Array Slot), Cx p s m av.toArray meth c cc n own E A → meth.sig.returnType = ret → Gw E A s w s.heap [] → lv_has ls n (lv_args 0 av) → ZZ A s → W p l e (rmD d) s m av.toArray below meth c s.heap [] 0 0 (MQ below (CtQ E A r w') av.toArray s 0 0 A) (F0 m 0 ls [])) : CtZ l y cc n ret d E av w r w' := by
  intro sz
  refine Met.ofW (cc := cc) (maxL := n) (ret := ret) hy rfl ?_
  intro p e s m args below meth c s₁ B hml hv
  obtain ⟨⟨rfl, hsz, hP, hK, hD0⟩, hZ⟩ := hv
  subst hsz
  subst ho
  have hl := lv_entry av (n := n) hn
  rw [lg_entry_eq]
  exact body p e s m below meth c _ _ ⟨B.exec, B.bytes, hml, findClass_of_methodNamed B.named, fun w hw => atoms_spec (ws := wY y cc n ret) B.pre w (List.mem_cons_of_mem _ hw), hK, fun q h => Or.inr h, B.notSynchronized⟩ B.returns ⟨hP, hD0.self, va_S.rf⟩ hl hZ
theorem g_callVZ {p : Program} {l : Launch} {e : Env} {R : Room} {s : State} {m : MethodId} {args : Array Value} {below : List Frame} {meth : Method} {c : Code} {H : Heap} {locs : List Loc} {cells slots : Nat} {Q : State → Prop} {cc : ByteArray} {nL : Nat} {own : String} {E : EE} {A : Nat → Prop} {w w' : va_W} {pc : Nat} {ls : Array Slot} {rest stk : List Value} {y2 : MethodName} {cc2 : ByteArray} {n2 : Nat} {ret2 : Option FieldType} {d2 k : Nat} {C : String} {idx b : Nat} {As : List Value} {r : Int32} {ci : Nat} {fs : List Value} {T : u_T} {N : Nat} (X : Cx p s m args meth c cc nL own E A) (hZ : ZZ A s) (hc : CalV own idx C y2 cc2 n2 ret2 k) (hM : CtZ l y2 cc2 n2 ret2 d2 E (.ref b :: As) w r w') (G : Gw E A s w H locs) (q0 : Nat) (he : w[q0]? = some (b, .inr (ci, fs))) (hcl : classes[ci]? = some (C, T, N)) (hR : d2 + 1 ≤ R.frames ∧ 8 + (n2 + 11) + 27 * d2 ≤ R.locals) (hf : cells ≤ R.cells ∧ slots ≤ R.slots) (hlen : As.length = k) (hls : ls.size = nL) (hst : stk = As.reverse ++ .ref b :: rest) (hroom : (rest.map fun v => v.category).sum ≤ 8) (hdg : decode cc pc = .ok (.invokevirtual idx, 3))
    (kk : ∀ (H1 : Heap) (locs1 : List Loc), Gw E A s w' H1 locs1 → W p l e R s m args below meth c H1 locs1 cells slots Q (F0 m (pc + 3) ls (.int r :: rest))) : W p l e R s m args below meth c H locs cells slots Q (F0 m pc ls stk) := by
  obtain ⟨hx, hb, hml, hown, hts, hK, hA, hlocks⟩ := X
  have hF := g_frame G hA
  obtain ⟨hP, hD, hS⟩ := G
  have hZ2 : ∀ U : State, U.heap = H → s.vm.Alike U.vm → ZZ (va_A w H.size) U := by
    intro U hU hvm
    obtain ⟨t1, t2, z1, z2, z3, z4⟩ := hZ
    have hq : ∀ a : Nat, a < s.heap.size → ¬ A a → H[a]? = s.heap[a]? := fun a h1 h2 => hS.2.1 a h1 h2
    refine ⟨t1, t2, ?_, ?_, ?_, ?_⟩
    · rw [hU]; exact ((z1.kept hq).narrow hF).moved hvm
    · rw [hU]; exact ((z2.kept hq).narrow hF).moved hvm
    · rw [hU]; exact ((z3.kept hq).narrow hF).moved hvm
    · rw [hU]; exact ((z4.kept hq).narrow hF).moved hvm
  refine va_calli (va_runV (As := As) (rest := rest) ⟨hx, hb, hml, hown, hts⟩ (hM H.size) (cwV k hts (gT_goodV hc.1) rfl rfl rfl hc.2 hR) ⟨fun a U g mk q => ⟨CtP_blind a U g mk q.1, ZZ_moved (u := U) (U := U.calling g mk a) (Vm.Alike.refl U.vm) rfl q.2⟩, va_recv hK hP (ci := ci) (q0 := q0) hcl he, fun U hU hW => ⟨⟨rfl, by rw [hU], by rw [hU]; exact hP, va_K.moved hW.alike hK, hD.weaken (fun _ _ _ _ => trivial)⟩, hZ2 U hU hW.alike⟩⟩ rfl hlen hls hst (lv_room hroom) hdg hf) hS (fun q _ h => hF q h) hF (fun r1 u t H1 locs1 ht hvm hw hB hz1 hk1 hS1 => ?_)
  subst hw
  exact kk H1 locs1 ⟨by rw [← ht]; exact hB.1, hB.2.2.weaken (fun _ _ _ h => hF _ h), hS1⟩
theorem q_least : Cond.fieldLink RX3 28 "BoxBindings" "RULE_LEAST" "[I" ∈ gT := gT_in 150 (by decide +kernel) (by decide +kernel)
theorem q_most : Cond.fieldLink RX3 32 "BoxBindings" "RULE_MOST" "[I" ∈ gT := gT_in 152 (by decide +kernel) (by decide +kernel)
theorem xRule_a {st : St} {what v : Int32} (h : rg what 6 = false) : xRule st what v = (-2, st) := by
  unfold xRule
  rw [frB_rg what (k := 5) (hi := 5) (by decide) rfl, if_pos h]
theorem xRule_b {st : St} {k : Nat} {v : Int32} (hk : k < 6) (h : frB v (nI (leastN k)) (nI (mostN k)) = false) : xRule st (nI k) v = (-2, st) := by
  unfold xRule
  rw [cl_nI (by omega), h, if_pos rfl]
  split <;> rfl
theorem xRule_c {st : St} {k : Nat} {v : Int32} (hk : k < 6) (h : frB v (nI (leastN k)) (nI (mostN k)) = true) : xRule st (nI k) v = (st 0 k, setRuleC st k v) := by
  have h0 : frB (nI k) 0 5 = true := frB_to (a := 0) (b := 5) (by omega) (by omega) (by decide)
  unfold xRule
  rw [cl_nI (by omega), h, h0, if_neg (by decide), if_neg (by decide)]
set_option maxHeartbeats 1000000 in
set_option maxRecDepth 100000 in
theorem c_X3_imageB (l : Launch) (E : EE) (a b0 b1 : Nat → Nat) (h0 g0 k0 : Nat) (fo : Nat → Option Nat) (st i0 i1 : St) (kp : Nat → Int32) (w : va_W) (k : Int32) (hk : rg k 2 = false) : Ct l yX3_image cX3_image 2 (some .int) 3 E [.ref h0, .int k] (wB E a st (wT E a b0 b1 h0 g0 k0 fo i0 i1 kp w)) (-2) (wB E a st (wT E a b0 b1 h0 g0 k0 fo i0 i1 kp w)) := by
  refine Ct_mk RX3 rfl (by decide +kernel) (Nat.le_of_ble_eq_true rfl) ?_
  intro p e s m below meth c A ls X hr G hl
  have hl : lv_has ls 2 [(0, .ref h0), (1, .int k)] := hl
  obtain ⟨hx, hb, hml, hown, hts, hK, hA, hlocks⟩ := id X
  refine lv_iload_n hx hb dX3_image_0 rfl (lv_at hl 1 rfl) ?_
  refine lv_iconst (v := 2) hx hb dX3_image_1 (by decide) ?_
  refine g_callS (As := [.int k, .int 2]) (rest := []) X kX3_24 (c_X3_isBelow l E _ k 2 (by decide)) G ⟨Nat.le_of_ble_eq_true rfl, Nat.le_of_ble_eq_true rfl⟩ ⟨Nat.le_refl _, Nat.le_refl _⟩ rfl hl.1 rfl (Nat.le_of_ble_eq_true rfl) dX3_image_2 (fun H locs G => ?_)
  refine b_ifne (tgt := 11) hx hb dX3_image_5 (by decide) (fun c1 => ?_) (fun c1 => ?_)
  · skip
    rw [hk] at c1
    exact absurd c1 (by decide)
  refine lv_bipush (v := (-2)) hx hb dX3_image_8 (by decide) ?_
  exact g_iret X hr G rfl rfl dX3_image_10
set_option maxHeartbeats 1000000 in
set_option maxRecDepth 100000 in
theorem c_X3_restoreB (l : Launch) (E : EE) (a b0 b1 : Nat → Nat) (h0 g0 k0 : Nat) (fo : Nat → Option Nat) (st i0 i1 : St) (kp : Nat → Int32) (w : va_W) (k : Int32) (hk : rg k 2 = false) : Ct l yX3_restore cX3_restore 2 (some .int) 3 E [.ref h0, .int k] (wB E a st (wT E a b0 b1 h0 g0 k0 fo i0 i1 kp w)) (-2) (wB E a st (wT E a b0 b1 h0 g0 k0 fo i0 i1 kp w)) := by
  refine Ct_mk RX3 rfl (by decide +kernel) (Nat.le_of_ble_eq_true rfl) ?_
  intro p e s m below meth c A ls X hr G hl
  have hl : lv_has ls 2 [(0, .ref h0), (1, .int k)] := hl
  obtain ⟨hx, hb, hml, hown, hts, hK, hA, hlocks⟩ := id X
  refine lv_iload_n hx hb dX3_restore_0 rfl (lv_at hl 1 rfl) ?_
  refine lv_iconst (v := 2) hx hb dX3_restore_1 (by decide) ?_
  refine g_callS (As := [.int k, .int 2]) (rest := []) X kX3_24 (c_X3_isBelow l E _ k 2 (by decide)) G ⟨Nat.le_of_ble_eq_true rfl, Nat.le_of_ble_eq_true rfl⟩ ⟨Nat.le_refl _, Nat.le_refl _⟩ rfl hl.1 rfl (Nat.le_of_ble_eq_true rfl) dX3_restore_2 (fun H locs G => ?_)
  refine b_ifne (tgt := 11) hx hb dX3_restore_5 (by decide) (fun c1 => ?_) (fun c1 => ?_)
  · skip
    rw [hk] at c1
    exact absurd c1 (by decide)
  refine lv_bipush (v := (-2)) hx hb dX3_restore_8 (by decide) ?_
  exact g_iret X hr G rfl rfl dX3_restore_10
set_option maxHeartbeats 1000000 in
set_option maxRecDepth 100000 in
theorem c_X3_image0 (l : Launch) (E : EE) (a b0 b1 : Nat → Nat) (h0 g0 k0 : Nat) (fo : Nat → Option Nat) (st i0 i1 : St) (kp : Nat → Int32) (w : va_W) (hf : fo 0 = some (b0 0)) : Ct l yX3_image cX3_image 2 (some .int) 3 E [.ref h0, .int 0] (wB E a st (wT E a b0 b1 h0 g0 k0 fo i0 i1 kp w)) 1 (wB E a st (wT E a b0 b1 h0 g0 k0 fo (cpA i0 st) i1 (upd kp 0 1) w)) := by
  refine Ct_mk RX3 rfl (by decide +kernel) (Nat.le_of_ble_eq_true rfl) ?_
  intro p e s m below meth c A ls X hr G hl
  have hl : lv_has ls 2 [(0, .ref h0), (1, .int 0)] := hl
  obtain ⟨hx, hb, hml, hown, hts, hK, hA, hlocks⟩ := id X
  refine lv_iload_n hx hb dX3_image_0 rfl (lv_at hl 1 rfl) ?_
  refine lv_iconst (v := 2) hx hb dX3_image_1 (by decide) ?_
  refine g_callS (As := [.int 0, .int 2]) (rest := []) X kX3_24 (c_X3_isBelow l E _ 0 2 (by decide)) G ⟨Nat.le_of_ble_eq_true rfl, Nat.le_of_ble_eq_true rfl⟩ ⟨Nat.le_refl _, Nat.le_refl _⟩ rfl hl.1 rfl (Nat.le_of_ble_eq_true rfl) dX3_image_2 (fun H locs G => ?_)
  refine b_ifne (tgt := 11) hx hb dX3_image_5 (by decide) (fun c1 => ?_) (fun c1 => ?_)
  rotate_left
  · skip
    exact absurd c1 (by decide)
  refine lv_aload_n hx hb dX3_image_11 rfl (lv_at hl 0 rfl) ?_
  refine g_get X G fX3_16 14 rfl rfl dX3_image_12 ?_
  refine lv_iload_n hx hb dX3_image_15 rfl (lv_at hl 1 rfl) ?_
  refine g_aald (j := 0) X G 15 rfl rfl (by decide) (by decide) hf dX3_image_16 ?_
  refine lv_aload_n hx hb dX3_image_17 rfl (lv_at hl 0 rfl) ?_
  refine g_get X G fX3_10 14 rfl rfl dX3_image_18 ?_
  have G := Gw_perm ((px_1 E a b0 b1 h0 g0 k0 fo st i0 i1 kp w).trans (px_3 E a b0 st i0 (mX E a h0 g0 k0 fo kp ++ wB E b1 i1 w))) G
  refine g_callVv (As := [.ref (a 0)]) (rest := []) X kX3_100 (c_X1_becomeLike l E b0 a i0 st (mX E a h0 g0 k0 fo kp ++ wB E b1 i1 w)) G 0 rfl rfl ⟨Nat.le_of_ble_eq_true rfl, Nat.le_of_ble_eq_true rfl⟩ ⟨Nat.le_refl _, Nat.le_refl _⟩ rfl hl.1 rfl (Nat.le_of_ble_eq_true rfl) dX3_image_21 (fun H locs G => ?_)
  have G := Gw_perm ((px_1 E a b0 b1 h0 g0 k0 fo st (cpA i0 st) i1 kp w).trans (px_3 E a b0 st (cpA i0 st) (mX E a h0 g0 k0 fo kp ++ wB E b1 i1 w))).symm G
  refine lv_aload_n hx hb dX3_image_24 rfl (lv_at hl 0 rfl) ?_
  refine g_get X G fX3_20 14 rfl rfl dX3_image_25 ?_
  refine lv_iload_n hx hb dX3_image_28 rfl (lv_at hl 1 rfl) ?_
  refine lv_iconst (v := 1) hx hb dX3_image_29 (by decide) ?_
  refine g_zast1 (j := 0) X G 16 rfl rfl (by decide) (by decide) dX3_image_30 (fun H locs G => ?_)
  have G : Gw E A s (wB E a st (wT E a b0 b1 h0 g0 k0 fo (cpA i0 st) i1 (upd kp 0 1) w)) H locs := G
  refine lv_iconst (v := 1) hx hb dX3_image_31 (by decide) ?_
  exact g_iret X hr G rfl rfl dX3_image_32
set_option maxHeartbeats 1000000 in
set_option maxRecDepth 100000 in
theorem c_X3_restore0N (l : Launch) (E : EE) (a b0 b1 : Nat → Nat) (h0 g0 k0 : Nat) (fo : Nat → Option Nat) (st i0 i1 : St) (kp : Nat → Int32) (w : va_W) (hf : fo 0 = some (b0 0)) (hk : kp 0 = 0) : Ct l yX3_restore cX3_restore 2 (some .int) 3 E [.ref h0, .int 0] (wB E a st (wT E a b0 b1 h0 g0 k0 fo i0 i1 kp w)) (-3) (wB E a st (wT E a b0 b1 h0 g0 k0 fo i0 i1 kp w)) := by
  refine Ct_mk RX3 rfl (by decide +kernel) (Nat.le_of_ble_eq_true rfl) ?_
  intro p e s m below meth c A ls X hr G hl
  have hl : lv_has ls 2 [(0, .ref h0), (1, .int 0)] := hl
  obtain ⟨hx, hb, hml, hown, hts, hK, hA, hlocks⟩ := id X
  refine lv_iload_n hx hb dX3_restore_0 rfl (lv_at hl 1 rfl) ?_
  refine lv_iconst (v := 2) hx hb dX3_restore_1 (by decide) ?_
  refine g_callS (As := [.int 0, .int 2]) (rest := []) X kX3_24 (c_X3_isBelow l E _ 0 2 (by decide)) G ⟨Nat.le_of_ble_eq_true rfl, Nat.le_of_ble_eq_true rfl⟩ ⟨Nat.le_refl _, Nat.le_refl _⟩ rfl hl.1 rfl (Nat.le_of_ble_eq_true rfl) dX3_restore_2 (fun H locs G => ?_)
  refine b_ifne (tgt := 11) hx hb dX3_restore_5 (by decide) (fun c1 => ?_) (fun c1 => ?_)
  rotate_left
  · skip
    exact absurd c1 (by decide)
  refine lv_aload_n hx hb dX3_restore_11 rfl (lv_at hl 0 rfl) ?_
  refine g_get X G fX3_20 14 rfl rfl dX3_restore_12 ?_
  refine lv_iload_n hx hb dX3_restore_15 rfl (lv_at hl 1 rfl) ?_
  refine g_zald (j := 0) X G 16 rfl rfl (by decide) (by decide) dX3_restore_16 ?_
  refine lv_if_ne (tgt := 23) hx hb dX3_restore_17 (by decide) (fun c2 => ?_) (fun c2 => ?_)
  · skip
    exact absurd hk c2
  refine lv_bipush (v := (-3)) hx hb dX3_restore_20 (by decide) ?_
  exact g_iret X hr G rfl rfl dX3_restore_22
set_option maxHeartbeats 1000000 in
set_option maxRecDepth 100000 in
theorem c_X3_restore0 (l : Launch) (E : EE) (a b0 b1 : Nat → Nat) (h0 g0 k0 : Nat) (fo : Nat → Option Nat) (st i0 i1 : St) (kp : Nat → Int32) (w : va_W) (hf : fo 0 = some (b0 0)) (hk : ¬ kp 0 = 0) : Ct l yX3_restore cX3_restore 2 (some .int) 3 E [.ref h0, .int 0] (wB E a st (wT E a b0 b1 h0 g0 k0 fo i0 i1 kp w)) 1 (wB E a (cpA st i0) (wT E a b0 b1 h0 g0 k0 fo i0 i1 kp w)) := by
  refine Ct_mk RX3 rfl (by decide +kernel) (Nat.le_of_ble_eq_true rfl) ?_
  intro p e s m below meth c A ls X hr G hl
  have hl : lv_has ls 2 [(0, .ref h0), (1, .int 0)] := hl
  obtain ⟨hx, hb, hml, hown, hts, hK, hA, hlocks⟩ := id X
  refine lv_iload_n hx hb dX3_restore_0 rfl (lv_at hl 1 rfl) ?_
  refine lv_iconst (v := 2) hx hb dX3_restore_1 (by decide) ?_
  refine g_callS (As := [.int 0, .int 2]) (rest := []) X kX3_24 (c_X3_isBelow l E _ 0 2 (by decide)) G ⟨Nat.le_of_ble_eq_true rfl, Nat.le_of_ble_eq_true rfl⟩ ⟨Nat.le_refl _, Nat.le_refl _⟩ rfl hl.1 rfl (Nat.le_of_ble_eq_true rfl) dX3_restore_2 (fun H locs G => ?_)
  refine b_ifne (tgt := 11) hx hb dX3_restore_5 (by decide) (fun c1 => ?_) (fun c1 => ?_)
  rotate_left
  · skip
    exact absurd c1 (by decide)
  refine lv_aload_n hx hb dX3_restore_11 rfl (lv_at hl 0 rfl) ?_
  refine g_get X G fX3_20 14 rfl rfl dX3_restore_12 ?_
  refine lv_iload_n hx hb dX3_restore_15 rfl (lv_at hl 1 rfl) ?_
  refine g_zald (j := 0) X G 16 rfl rfl (by decide) (by decide) dX3_restore_16 ?_
  refine lv_if_ne (tgt := 23) hx hb dX3_restore_17 (by decide) (fun c2 => ?_) (fun c2 => ?_)
  rotate_left
  · skip
    exact absurd c2 hk
  refine lv_aload_n hx hb dX3_restore_23 rfl (lv_at hl 0 rfl) ?_
  refine g_get X G fX3_10 14 rfl rfl dX3_restore_24 ?_
  refine lv_aload_n hx hb dX3_restore_27 rfl (lv_at hl 0 rfl) ?_
  refine g_get X G fX3_16 14 rfl rfl dX3_restore_28 ?_
  refine lv_iload_n hx hb dX3_restore_31 rfl (lv_at hl 1 rfl) ?_
  refine g_aald (j := 0) X G 15 rfl rfl (by decide) (by decide) hf dX3_restore_32 ?_
  have G := Gw_perm (px_1 E a b0 b1 h0 g0 k0 fo st i0 i1 kp w) G
  refine g_callVv (As := [.ref (b0 0)]) (rest := []) X kX3_100 (c_X1_becomeLike l E a b0 st i0 (mX E a h0 g0 k0 fo kp ++ wB E b1 i1 w)) G 0 rfl rfl ⟨Nat.le_of_ble_eq_true rfl, Nat.le_of_ble_eq_true rfl⟩ ⟨Nat.le_refl _, Nat.le_refl _⟩ rfl hl.1 rfl (Nat.le_of_ble_eq_true rfl) dX3_restore_33 (fun H locs G => ?_)
  have G := Gw_perm (px_1 E a b0 b1 h0 g0 k0 fo (cpA st i0) i0 i1 kp w).symm G
  refine lv_iconst (v := 1) hx hb dX3_restore_36 (by decide) ?_
  exact g_iret X hr G rfl rfl dX3_restore_37
set_option maxHeartbeats 1000000 in
set_option maxRecDepth 100000 in
theorem c_X3_image1 (l : Launch) (E : EE) (a b0 b1 : Nat → Nat) (h0 g0 k0 : Nat) (fo : Nat → Option Nat) (st i0 i1 : St) (kp : Nat → Int32) (w : va_W) (hf : fo 1 = some (b1 0)) : Ct l yX3_image cX3_image 2 (some .int) 3 E [.ref h0, .int 1] (wB E a st (wT E a b0 b1 h0 g0 k0 fo i0 i1 kp w)) 1 (wB E a st (wT E a b0 b1 h0 g0 k0 fo i0 (cpA i1 st) (upd kp 1 1) w)) := by
  refine Ct_mk RX3 rfl (by decide +kernel) (Nat.le_of_ble_eq_true rfl) ?_
  intro p e s m below meth c A ls X hr G hl
  have hl : lv_has ls 2 [(0, .ref h0), (1, .int 1)] := hl
  obtain ⟨hx, hb, hml, hown, hts, hK, hA, hlocks⟩ := id X
  refine lv_iload_n hx hb dX3_image_0 rfl (lv_at hl 1 rfl) ?_
  refine lv_iconst (v := 2) hx hb dX3_image_1 (by decide) ?_
  refine g_callS (As := [.int 1, .int 2]) (rest := []) X kX3_24 (c_X3_isBelow l E _ 1 2 (by decide)) G ⟨Nat.le_of_ble_eq_true rfl, Nat.le_of_ble_eq_true rfl⟩ ⟨Nat.le_refl _, Nat.le_refl _⟩ rfl hl.1 rfl (Nat.le_of_ble_eq_true rfl) dX3_image_2 (fun H locs G => ?_)
  refine b_ifne (tgt := 11) hx hb dX3_image_5 (by decide) (fun c1 => ?_) (fun c1 => ?_)
  rotate_left
  · skip
    exact absurd c1 (by decide)
  refine lv_aload_n hx hb dX3_image_11 rfl (lv_at hl 0 rfl) ?_
  refine g_get X G fX3_16 14 rfl rfl dX3_image_12 ?_
  refine lv_iload_n hx hb dX3_image_15 rfl (lv_at hl 1 rfl) ?_
  refine g_aald (j := 1) X G 15 rfl rfl (by decide) (by decide) hf dX3_image_16 ?_
  refine lv_aload_n hx hb dX3_image_17 rfl (lv_at hl 0 rfl) ?_
  refine g_get X G fX3_10 14 rfl rfl dX3_image_18 ?_
  have G := Gw_perm ((px_2 E a b0 b1 h0 g0 k0 fo st i0 i1 kp w).trans (px_3 E a b1 st i1 (mX E a h0 g0 k0 fo kp ++ wB E b0 i0 w))) G
  refine g_callVv (As := [.ref (a 0)]) (rest := []) X kX3_100 (c_X1_becomeLike l E b1 a i1 st (mX E a h0 g0 k0 fo kp ++ wB E b0 i0 w)) G 0 rfl rfl ⟨Nat.le_of_ble_eq_true rfl, Nat.le_of_ble_eq_true rfl⟩ ⟨Nat.le_refl _, Nat.le_refl _⟩ rfl hl.1 rfl (Nat.le_of_ble_eq_true rfl) dX3_image_21 (fun H locs G => ?_)
  have G := Gw_perm ((px_2 E a b0 b1 h0 g0 k0 fo st i0 (cpA i1 st) kp w).trans (px_3 E a b1 st (cpA i1 st) (mX E a h0 g0 k0 fo kp ++ wB E b0 i0 w))).symm G
  refine lv_aload_n hx hb dX3_image_24 rfl (lv_at hl 0 rfl) ?_
  refine g_get X G fX3_20 14 rfl rfl dX3_image_25 ?_
  refine lv_iload_n hx hb dX3_image_28 rfl (lv_at hl 1 rfl) ?_
  refine lv_iconst (v := 1) hx hb dX3_image_29 (by decide) ?_
  refine g_zast1 (j := 1) X G 16 rfl rfl (by decide) (by decide) dX3_image_30 (fun H locs G => ?_)
  have G : Gw E A s (wB E a st (wT E a b0 b1 h0 g0 k0 fo i0 (cpA i1 st) (upd kp 1 1) w)) H locs := G
  refine lv_iconst (v := 1) hx hb dX3_image_31 (by decide) ?_
  exact g_iret X hr G rfl rfl dX3_image_32
set_option maxHeartbeats 1000000 in
set_option maxRecDepth 100000 in
theorem c_X3_restore1N (l : Launch) (E : EE) (a b0 b1 : Nat → Nat) (h0 g0 k0 : Nat) (fo : Nat → Option Nat) (st i0 i1 : St) (kp : Nat → Int32) (w : va_W) (hf : fo 1 = some (b1 0)) (hk : kp 1 = 0) : Ct l yX3_restore cX3_restore 2 (some .int) 3 E [.ref h0, .int 1] (wB E a st (wT E a b0 b1 h0 g0 k0 fo i0 i1 kp w)) (-3) (wB E a st (wT E a b0 b1 h0 g0 k0 fo i0 i1 kp w)) := by
  refine Ct_mk RX3 rfl (by decide +kernel) (Nat.le_of_ble_eq_true rfl) ?_
  intro p e s m below meth c A ls X hr G hl
  have hl : lv_has ls 2 [(0, .ref h0), (1, .int 1)] := hl
  obtain ⟨hx, hb, hml, hown, hts, hK, hA, hlocks⟩ := id X
  refine lv_iload_n hx hb dX3_restore_0 rfl (lv_at hl 1 rfl) ?_
  refine lv_iconst (v := 2) hx hb dX3_restore_1 (by decide) ?_
  refine g_callS (As := [.int 1, .int 2]) (rest := []) X kX3_24 (c_X3_isBelow l E _ 1 2 (by decide)) G ⟨Nat.le_of_ble_eq_true rfl, Nat.le_of_ble_eq_true rfl⟩ ⟨Nat.le_refl _, Nat.le_refl _⟩ rfl hl.1 rfl (Nat.le_of_ble_eq_true rfl) dX3_restore_2 (fun H locs G => ?_)
  refine b_ifne (tgt := 11) hx hb dX3_restore_5 (by decide) (fun c1 => ?_) (fun c1 => ?_)
  rotate_left
  · skip
    exact absurd c1 (by decide)
  refine lv_aload_n hx hb dX3_restore_11 rfl (lv_at hl 0 rfl) ?_
  refine g_get X G fX3_20 14 rfl rfl dX3_restore_12 ?_
  refine lv_iload_n hx hb dX3_restore_15 rfl (lv_at hl 1 rfl) ?_
  refine g_zald (j := 1) X G 16 rfl rfl (by decide) (by decide) dX3_restore_16 ?_
  refine lv_if_ne (tgt := 23) hx hb dX3_restore_17 (by decide) (fun c2 => ?_) (fun c2 => ?_)
  · skip
    exact absurd hk c2
  refine lv_bipush (v := (-3)) hx hb dX3_restore_20 (by decide) ?_
  exact g_iret X hr G rfl rfl dX3_restore_22
set_option maxHeartbeats 1000000 in
set_option maxRecDepth 100000 in
theorem c_X3_restore1 (l : Launch) (E : EE) (a b0 b1 : Nat → Nat) (h0 g0 k0 : Nat) (fo : Nat → Option Nat) (st i0 i1 : St) (kp : Nat → Int32) (w : va_W) (hf : fo 1 = some (b1 0)) (hk : ¬ kp 1 = 0) : Ct l yX3_restore cX3_restore 2 (some .int) 3 E [.ref h0, .int 1] (wB E a st (wT E a b0 b1 h0 g0 k0 fo i0 i1 kp w)) 1 (wB E a (cpA st i1) (wT E a b0 b1 h0 g0 k0 fo i0 i1 kp w)) := by
  refine Ct_mk RX3 rfl (by decide +kernel) (Nat.le_of_ble_eq_true rfl) ?_
  intro p e s m below meth c A ls X hr G hl
  have hl : lv_has ls 2 [(0, .ref h0), (1, .int 1)] := hl
  obtain ⟨hx, hb, hml, hown, hts, hK, hA, hlocks⟩ := id X
  refine lv_iload_n hx hb dX3_restore_0 rfl (lv_at hl 1 rfl) ?_
  refine lv_iconst (v := 2) hx hb dX3_restore_1 (by decide) ?_
  refine g_callS (As := [.int 1, .int 2]) (rest := []) X kX3_24 (c_X3_isBelow l E _ 1 2 (by decide)) G ⟨Nat.le_of_ble_eq_true rfl, Nat.le_of_ble_eq_true rfl⟩ ⟨Nat.le_refl _, Nat.le_refl _⟩ rfl hl.1 rfl (Nat.le_of_ble_eq_true rfl) dX3_restore_2 (fun H locs G => ?_)
  refine b_ifne (tgt := 11) hx hb dX3_restore_5 (by decide) (fun c1 => ?_) (fun c1 => ?_)
  rotate_left
  · skip
    exact absurd c1 (by decide)
  refine lv_aload_n hx hb dX3_restore_11 rfl (lv_at hl 0 rfl) ?_
  refine g_get X G fX3_20 14 rfl rfl dX3_restore_12 ?_
  refine lv_iload_n hx hb dX3_restore_15 rfl (lv_at hl 1 rfl) ?_
  refine g_zald (j := 1) X G 16 rfl rfl (by decide) (by decide) dX3_restore_16 ?_
  refine lv_if_ne (tgt := 23) hx hb dX3_restore_17 (by decide) (fun c2 => ?_) (fun c2 => ?_)
  rotate_left
  · skip
    exact absurd c2 hk
  refine lv_aload_n hx hb dX3_restore_23 rfl (lv_at hl 0 rfl) ?_
  refine g_get X G fX3_10 14 rfl rfl dX3_restore_24 ?_
  refine lv_aload_n hx hb dX3_restore_27 rfl (lv_at hl 0 rfl) ?_
  refine g_get X G fX3_16 14 rfl rfl dX3_restore_28 ?_
  refine lv_iload_n hx hb dX3_restore_31 rfl (lv_at hl 1 rfl) ?_
  refine g_aald (j := 1) X G 15 rfl rfl (by decide) (by decide) hf dX3_restore_32 ?_
  have G := Gw_perm (px_2 E a b0 b1 h0 g0 k0 fo st i0 i1 kp w) G
  refine g_callVv (As := [.ref (b1 0)]) (rest := []) X kX3_100 (c_X1_becomeLike l E a b1 st i1 (mX E a h0 g0 k0 fo kp ++ wB E b0 i0 w)) G 0 rfl rfl ⟨Nat.le_of_ble_eq_true rfl, Nat.le_of_ble_eq_true rfl⟩ ⟨Nat.le_refl _, Nat.le_refl _⟩ rfl hl.1 rfl (Nat.le_of_ble_eq_true rfl) dX3_restore_33 (fun H locs G => ?_)
  have G := Gw_perm (px_2 E a b0 b1 h0 g0 k0 fo (cpA st i1) i0 i1 kp w).symm G
  refine lv_iconst (v := 1) hx hb dX3_restore_36 (by decide) ?_
  exact g_iret X hr G rfl rfl dX3_restore_37
set_option maxHeartbeats 1000000 in
set_option maxRecDepth 100000 in
theorem c_X3_rule (l : Launch) (E : EE) (a b0 b1 : Nat → Nat) (h0 g0 k0 : Nat) (fo : Nat → Option Nat) (st i0 i1 : St) (kp : Nat → Int32) (w : va_W) (what v : Int32) : CtZ l yX3_rule cX3_rule 3 (some .int) 5 E [.ref h0, .int what, .int v] (wB E a st (wT E a b0 b1 h0 g0 k0 fo i0 i1 kp w)) ((xRule st what v).1) (wB E a ((xRule st what v).2) (wT E a b0 b1 h0 g0 k0 fo i0 i1 kp w)) := by
  refine CtZ_mk RX3 rfl (by decide +kernel) (Nat.le_of_ble_eq_true rfl) ?_
  intro p e s m below meth c A ls X hr G hl hZ
  have hl : lv_has ls 3 [(0, .ref h0), (1, .int what), (2, .int v)] := hl
  obtain ⟨hx, hb, hml, hown, hts, hK, hA, hlocks⟩ := id X
  obtain ⟨t1, t2, z1, z2, z3, z4⟩ := hZ
  refine lv_iload_n hx hb dX3_rule_0 rfl (lv_at hl 1 rfl) ?_
  refine lv_bipush (v := 6) hx hb dX3_rule_1 (by decide) ?_
  refine g_callS (As := [.int what, .int 6]) (rest := []) X kX3_24 (c_X3_isBelow l E _ what 6 (by decide)) G ⟨Nat.le_of_ble_eq_true rfl, Nat.le_of_ble_eq_true rfl⟩ ⟨Nat.le_refl _, Nat.le_refl _⟩ rfl hl.1 rfl (Nat.le_of_ble_eq_true rfl) dX3_rule_3 (fun H locs G => ?_)
  refine b_ifeq (tgt := 27) hx hb dX3_rule_6 (by decide) (fun c1 => ?_) (fun c1 => ?_)
  · skip
    refine lv_bipush (v := (-2)) hx hb dX3_rule_27 (by decide) ?_
    exact g_iret X hr G (by rw [xRule_a c1]) (by rw [xRule_a c1]) dX3_rule_29
  obtain ⟨k, hk, rfl⟩ := rg_nat (by decide) c1
  refine lv_iload_n hx hb dX3_rule_9 rfl (lv_at hl 2 rfl) ?_
  refine va_gets hx hb z1 G.2.2 hown (hts _ q_least) (fun _ h => h) dX3_rule_10 ?_
  refine lv_iload_n hx hb dX3_rule_13 rfl (lv_at hl 1 rfl) ?_
  refine va_ti (v := .int (nI (leastN k))) hx hb z2 G.2.2 (vp_in_nI hk (by decide)) (by rw [nI_clamp (by omega)]) dX3_rule_14 ?_
  refine lv_icmp_lt (tgt := 27) hx hb dX3_rule_15 (by decide) (fun c2 => ?_) (fun c2 => ?_)
  · skip
    refine lv_bipush (v := (-2)) hx hb dX3_rule_27 (by decide) ?_
    exact g_iret X hr G (by rw [xRule_b hk (frB_1 c2)]) (by rw [xRule_b hk (frB_1 c2)]) dX3_rule_29
  refine lv_iload_n hx hb dX3_rule_18 rfl (lv_at hl 2 rfl) ?_
  refine va_gets hx hb z3 G.2.2 hown (hts _ q_most) (fun _ h => h) dX3_rule_19 ?_
  refine lv_iload_n hx hb dX3_rule_22 rfl (lv_at hl 1 rfl) ?_
  refine va_ti (v := .int (nI (mostN k))) hx hb z4 G.2.2 (vp_in_nI hk (by decide)) (by rw [nI_clamp (by omega)]) dX3_rule_23 ?_
  refine lv_icmp_le (tgt := 30) hx hb dX3_rule_24 (by decide) (fun c3 => ?_) (fun c3 => ?_)
  rotate_left
  · skip
    refine lv_bipush (v := (-2)) hx hb dX3_rule_27 (by decide) ?_
    exact g_iret X hr G (by rw [xRule_b hk (frB_2' c3)]) (by rw [xRule_b hk (frB_2' c3)]) dX3_rule_29
  have hq := xRule_c (st := st) hk (frB_3' c2 c3)
  refine lv_aload_n hx hb dX3_rule_30 rfl (lv_at hl 0 rfl) ?_
  refine g_get X G fX3_10 14 rfl rfl dX3_rule_31 ?_
  refine lv_iload_n hx hb dX3_rule_34 rfl (lv_at hl 1 rfl) ?_
  refine lv_iload_n hx hb dX3_rule_35 rfl (lv_at hl 2 rfl) ?_
  refine g_callV (As := [.int (nI k), .int v]) (rest := []) X kX3_35 (c_X1_setRule l E a st (wT E a b0 b1 h0 g0 k0 fo i0 i1 kp w) k hk v) G 0 rfl rfl ⟨Nat.le_of_ble_eq_true rfl, Nat.le_of_ble_eq_true rfl⟩ ⟨Nat.le_refl _, Nat.le_refl _⟩ rfl hl.1 rfl (Nat.le_of_ble_eq_true rfl) dX3_rule_36 (fun H locs G => ?_)
  exact g_iret X hr G (by rw [hq]) (by rw [hq]) dX3_rule_39
