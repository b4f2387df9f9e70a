theorem eqv {args : Array Value} {s : State} {t : Term} {z : Int32} (h : (Cond.eq t (.int z)).before args s = true) : t.eval args s none [] s = some (.int z) := by
  cases hv : t.eval args s none [] s with
  | none => simp [Cond.before, Cond.holds, Cond.value, hv] at h
  | some w =>
    have hz : (Term.int z).eval args s none [] s = some (.int z) := rfl
    simp only [Cond.before, Cond.holds, Cond.value, hv, hz] at h
    cases w <;> simp_all
theorem len_lt {args : Array Value} {first s : State} {o : Option Outcome} {idx : List Nat} {t : Term} {v : Value} (h : (Term.length t).eval args first o idx s = some v) :
    ∃ a cell, t.eval args first o idx s = some (.ref a) ∧ s.arrayAt? a = some cell ∧ cell.slots.size < 2147483648 ∧ v = .int cell.slots.size.toInt32 := by
  simp only [Term.eval, Option.bind_eq_bind] at h
  cases ht : t.eval args first o idx s with
  | none => simp [ht] at h
  | some x =>
    cases x <;> simp [ht] at h
    case ref a =>
      obtain ⟨cell, hcell, h⟩ := Option.bind_eq_some_iff.mp h
      by_cases hn : cell.slots.size < 2147483648
      · rw [if_pos hn] at h; cases h; exact ⟨a, cell, rfl, hcell, hn, rfl⟩
      · rw [if_neg hn] at h; cases h
theorem gv_at {b : Nat} {s : State} {c : Cond} (hgv : (Jvm.Cond.and given_1 narrow_1).before #[Value.ref b] s = true) (i : Nat) (h : (flatC (Jvm.Cond.and given_1 narrow_1))[i]? = some c) : c.before #[Value.ref b] s = true :=
  flat_of_before _ hgv c (List.mem_of_getElem? h)
abbrev tF : Term := .static "BoxBindings" "RULE_FIRST" "[I"
abbrev tL : Term := .static "BoxBindings" "RULE_LEAST" "[I"
abbrev tM : Term := .static "BoxBindings" "RULE_MOST" "[I"
theorem hA_no {s : State} : ∀ a : Nat, a < s.heap.size → ¬ AA s a := fun _ h q => absurd h (Nat.not_lt.mpr q)
theorem ZF_start {b : Nat} {s : State} (hts : ∀ w ∈ lw_tbl, w.before #[Value.ref b] s = true) (hgv : (Jvm.Cond.and given_1 narrow_1).before #[Value.ref b] s = true) : ZF (AA s) s := by
  obtain ⟨t0, cell, h1, h2, h3, h4⟩ := len_lt (eqv (gv_at (c := .eq (.length tF) (.int 6)) hgv 6 (by decide +kernel)))
  obtain ⟨y1, y2, y3, -⟩ := State.arrayAt?_spec h2
  obtain ⟨t1, ci, cell1, k, x1, x2, x3, x4, x5, x6, -⟩ := Cond.exactly_spec (gv_at (c := .exactly tF "[I") hgv 34 (by decide +kernel))
  cases h1.symm.trans x1
  cases y1.symm.trans x3
  have hsz : cell.slots.size = 6 := by
    have e : nI 6 = nI cell.slots.size := Value.int.inj h4
    exact ((nI_eq (by decide) (by omega)).mp e).symm
  have key : ∀ j : Nat, j < 6 → ∀ z : Int32, (Cond.eq (.elem tF (.int (nI j))) (.int z)).before #[Value.ref b] s = true → cell.slots[j]? = some (.int z) := by
    intro j hj z hz
    obtain ⟨a2, i, cell2, q1, q2, q3, q4, q5⟩ := Term.elem_spec (eqv hz)
    cases h1.symm.trans q1
    cases h2.symm.trans q3
    have e : (Term.int (nI j)).eval #[Value.ref b] s none [] s = some (.int (nI j)) := rfl
    cases q2.symm.trans e
    rw [nI_clamp (by omega)] at q5
    exact q5
  refine ⟨t0, cell, va_Zof (hts _ (List.mem_of_getElem? (i := 52) (by decide +kernel))) (hts _ (List.mem_of_getElem? (i := 29) (by decide +kernel))) h1 hA_no, y1, hA_no _ (Array.getElem?_eq_some_iff.mp y1).1, y3, y2, by rw [x6]; exact x2, hsz, ?_⟩
  refine cases6 ?_ ?_ ?_ ?_ ?_ ?_
  · exact key 0 (by omega) 0 (gv_at hgv 7 (by decide +kernel))
  · exact key 1 (by omega) 0 (gv_at hgv 8 (by decide +kernel))
  · exact key 2 (by omega) 0 (gv_at hgv 9 (by decide +kernel))
  · exact key 3 (by omega) 4 (gv_at hgv 10 (by decide +kernel))
  · exact key 4 (by omega) 20 (gv_at hgv 11 (by decide +kernel))
  · exact key 5 (by omega) 2 (gv_at hgv 12 (by decide +kernel))
theorem ZZ_start {b : Nat} {s : State} (hts : ∀ w ∈ lw_tbl, w.before #[Value.ref b] s = true) (hgv : (Jvm.Cond.and given_1 narrow_1).before #[Value.ref b] s = true) : ZZ (AA s) s := by
  obtain ⟨t1, a1, a2⟩ := va_Tof (args := #[Value.ref b]) (s := s) (tm := tL) (ty := .int) (N := 6) (f := fun j => .int (nI (leastN j))) (A := AA s) (by decide) (gv_at hgv 14 (by decide +kernel)) (eqv (gv_at hgv 15 (by decide +kernel))) (cases6 (eqv (gv_at hgv 16 (by decide +kernel))) (eqv (gv_at hgv 17 (by decide +kernel))) (eqv (gv_at hgv 18 (by decide +kernel))) (eqv (gv_at hgv 19 (by decide +kernel))) (eqv (gv_at hgv 20 (by decide +kernel))) (eqv (gv_at hgv 21 (by decide +kernel)))) hA_no
  obtain ⟨t2, c1, c2⟩ := va_Tof (args := #[Value.ref b]) (s := s) (tm := tM) (ty := .int) (N := 6) (f := fun j => .int (nI (mostN j))) (A := AA s) (by decide) (gv_at hgv 23 (by decide +kernel)) (eqv (gv_at hgv 24 (by decide +kernel))) (cases6 (eqv (gv_at hgv 25 (by decide +kernel))) (eqv (gv_at hgv 26 (by decide +kernel))) (eqv (gv_at hgv 27 (by decide +kernel))) (eqv (gv_at hgv 28 (by decide +kernel))) (eqv (gv_at hgv 29 (by decide +kernel))) (eqv (gv_at hgv 30 (by decide +kernel)))) hA_no
  exact ⟨t1, t2, va_Zof (hts _ (List.mem_of_getElem? (i := 151) (by decide +kernel))) (hts _ (List.mem_of_getElem? (i := 29) (by decide +kernel))) a1 hA_no, a2, va_Zof (hts _ (List.mem_of_getElem? (i := 153) (by decide +kernel))) (hts _ (List.mem_of_getElem? (i := 29) (by decide +kernel))) c1 hA_no, c2⟩
theorem ZI_start {b : Nat} {s : State} (hts : ∀ w ∈ lw_tbl, w.before #[Value.ref b] s = true) (hgv : (Jvm.Cond.and given_1 narrow_1).before #[Value.ref b] s = true) : ZI (AA s) s :=
  ⟨ZF_start hts hgv, va_Nw.of rfl (hts (.methodLinkNest "BoxBindings" 9 yX1_init "BoxBindings") (List.mem_of_getElem? (i := 47) (by decide +kernel))), va_Nw.of rfl (hts (.fieldLinkNest "BoxBindings$Box" 9 "BoxBindings" "RULE_FIRST" "[I" "BoxBindings") (List.mem_of_getElem? (i := 51) (by decide +kernel))), va_Nw.of rfl (hts (.castable "[I" "java/lang/Cloneable") (List.mem_of_getElem? (i := 58) (by decide +kernel))), va_AO.of (hts (.arrayOver (.object "BoxBindings$Box")) (List.mem_of_getElem? (i := 131) (by decide +kernel)))⟩
theorem q_i38 : Cond.instantiable RX3 3 ∈ gT := gT_in 38 (by decide +kernel) (by decide +kernel)
theorem q_i454 : Cond.instantiable RX4 3 ∈ gT := gT_in 450 (by decide +kernel) (by decide +kernel)
theorem q_n29 : Cond.initialized RX3 ∈ gT := gT_in 29 (by decide +kernel) (by decide +kernel)
theorem q_n34 : Cond.initialized RX4 ∈ gT := gT_in 34 (by decide +kernel) (by decide +kernel)
theorem q_l37 : Cond.classLink RL 7 RX3 ∈ gT := gT_in 37 (by decide +kernel) (by decide +kernel)
theorem q_l453 : Cond.classLink RL 10 RX4 ∈ gT := gT_in 449 (by decide +kernel) (by decide +kernel)
theorem q_m39 : Cond.methodLink RL 9 yX3_init ∈ gT := gT_in 39 (by decide +kernel) (by decide +kernel)
theorem q_m40 : Cond.instanceMethod yX3_init ∈ gT := gT_in 40 (by decide +kernel) (by decide +kernel)
theorem q_m41 : Cond.code yX3_init cX3_init 1 none ∈ gT := gT_in 41 (by decide +kernel) (by decide +kernel)
theorem q_m455 : Cond.methodLink RL 12 yX4_init ∈ gT := gT_in 451 (by decide +kernel) (by decide +kernel)
theorem q_m456 : Cond.instanceMethod yX4_init ∈ gT := gT_in 452 (by decide +kernel) (by decide +kernel)
theorem q_m457 : Cond.code yX4_init cX4_init 2 none ∈ gT := gT_in 453 (by decide +kernel) (by decide +kernel)
theorem KK_start {args : Array Value} {s : State} (hts : ∀ w ∈ lw_tbl, w.before args s = true) : ∃ E : EE, KK E s := by
  have hg : ∀ w ∈ gT, w.before args s = true := fun w hw => hts w (gT_tbl hw)
  obtain ⟨c0, iS0, k0⟩ := u_known (n := 6) hg uX0 (hg _ q_i61)
  obtain ⟨c1, iS1, k1⟩ := u_known (n := 4) hg uX1 (hg _ q_i46)
  obtain ⟨c2, iS2, k2⟩ := u_known (n := 4) hg uX2 (hg _ q_i95)
  obtain ⟨c3, iS3, k3⟩ := u_known (n := 3) hg uX3 (hg _ q_i38)
  obtain ⟨c4, iS4, k4⟩ := u_known (n := 3) hg uX4 (hg _ q_i454)
  obtain ⟨cI, kI, compI, f1, f2, f3⟩ := Cond.arrayClass_spec (hg _ q_ai)
  obtain ⟨cZ, kZ, compZ, g1, g2, g3⟩ := Cond.arrayClass_spec (hg _ q_az)
  obtain ⟨compB, cB, kB, j1, -, j2, j3, j4⟩ := Cond.arrayOver_spec (hts (.arrayOver (.object "BoxBindings$Box")) (List.mem_of_getElem? (i := 131) (by decide +kernel)))
  refine ⟨((fun k => match k with | 0 => c0 | 1 => c1 | 2 => c2 | 3 => c3 | _ => c4, fun k => match k with | 0 => iS0 | 1 => iS1 | 2 => iS2 | 3 => iS3 | _ => iS4), cI, cZ, cB), ?_, ?_⟩
  · intro k q hq
    match k, hq with
    | 0, hq => cases hq; exact k0
    | 1, hq => cases hq; exact k1
    | 2, hq => cases hq; exact k2
    | 3, hq => cases hq; exact k3
    | 4, hq => cases hq; exact k4
    | k + 5, hq => simp [classes] at hq
  · intro k q hq
    match k, hq with
    | 0, hq => cases hq; exact ⟨fun n z => ⟨fun k h => (by cases h), kI, f2, compI, f3⟩, f1⟩
    | 1, hq => cases hq; exact ⟨fun n z => ⟨fun k h => (by cases h), kZ, g2, compZ, g3⟩, g1⟩
    | 2, hq => cases hq; exact ⟨fun n z => ⟨fun k h => (by cases h), kB, j2, compB, j3⟩, kB, compB, j2, j3, j1, j4⟩
    | k + 3, hq => simp [tysA] at hq
set_option maxHeartbeats 4000000 in
set_option maxRecDepth 100000 in
/-- THE LAW, from its entry -/
theorem whole_start {p : Program} {e : Env} {s : State} {m : MethodId} {below : List Frame} {meth : Method} {c : Code} (l : Launch) (hflags : l.flags = flags0) {b L : Nat} {xs : Nat → Int32} (hL : L ≤ 3072) (C0 : lw_At p s m meth c b L xs) : W p l e room_1 s m #[Value.ref b] below meth c s.heap [] 0 0 (lw_Z below #[Value.ref b] s) (entryFrame m ([Value.ref b] : List Value).toArray 4) := by
  obtain ⟨hx, hb, hr, hml, hown, hts, hX, hbl, hlocks, hgv⟩ := C0
  obtain ⟨E, hK⟩ := KK_start hts
  have hZ := ZI_start hts hgv
  have hZZ := ZZ_start hts hgv
  have X : Cx p s m #[Value.ref b] meth c cL_law 4 RL E (AA s) := ⟨hx, hb, hml, hown, fun w hw => hts w (gT_tbl hw), hK, fun _ h => h, hlocks⟩
  have G : Gw E (AA s) s [] s.heap [] := ⟨fun k q h => by simp at h, ⟨fun i j p q h => by simp at h, fun k q h => by simp at h⟩, va_S.rf⟩
  have hl := lv_entry ([.ref b]) (n := 4) (Nat.le_of_ble_eq_true rfl)
  rw [lg_entry_eq]
  generalize (lg_sl ([.ref b]) ++ List.replicate (4 - (lg_sl ([.ref b])).length) Slot.unset).toArray = ls at hl ⊢
  have hl : lv_has ls 4 [(0, .ref b)] := hl
  refine g_newo (fs := [.null, .null, .null]) tyX3 tyX3_ok X G uX3 q_l37 q_i38 q_n29 (ci := 3) rfl (cases3 rfl rfl rfl) (Nat.le_of_ble_eq_true rfl) (Nat.le_of_ble_eq_true rfl) dL_law_0 (fun h0 H G => ?_)
  refine lv_dup hx hb dL_law_3 rfl ?_
  refine g_callI (rest := [.ref h0]) X hZ q_m39 q_m40 q_n29 q_m41 rfl ⟨by decide +kernel, by decide +kernel, by decide +kernel⟩ (c_X3_init l E h0 _) G ⟨Nat.le_of_ble_eq_true rfl, Nat.le_of_ble_eq_true rfl⟩ ⟨Nat.le_of_ble_eq_true rfl, Nat.le_of_ble_eq_true rfl⟩ hl.1 (Nat.le_of_ble_eq_true rfl) dL_law_4 (fun H locs w' hB G => ?_)
  obtain ⟨a, b0, b1, g0, k0, rfl⟩ := hB
  refine lv_astore_n (lv' := [(1, .ref h0), (0, .ref b)]) hx hb dL_law_7 rfl hl (by decide) rfl (fun ls hl => ?_)
  refine g_newo (fs := [.null, .null, .null]) tyX4 tyX4_ok X G uX4 q_l453 q_i454 q_n34 (ci := 4) rfl (cases3 rfl rfl rfl) (Nat.le_of_ble_eq_true rfl) (Nat.le_of_ble_eq_true rfl) dL_law_8 (fun m0 H G => ?_)
  refine lv_dup hx hb dL_law_11 rfl ?_
  refine g_callI (rest := [.ref m0]) X hZ q_m455 q_m456 q_n34 q_m457 rfl ⟨by decide +kernel, by decide +kernel, by decide +kernel⟩ (c_X4_init l E m0 _) G ⟨Nat.le_of_ble_eq_true rfl, Nat.le_of_ble_eq_true rfl⟩ ⟨Nat.le_of_ble_eq_true rfl, Nat.le_of_ble_eq_true rfl⟩ hl.1 (Nat.le_of_ble_eq_true rfl) dL_law_12 (fun H locs w' hB G => ?_)
  obtain ⟨mo, rfl, rfl⟩ := hB
  have G := Gw_perm (pw E a b0 b1 mo h0 g0 k0 (foN (b0 0) (b1 0)) stN stN stN zf mN).symm G
  refine W.widen (k := 49) (n := 2289) (Nat.le_of_ble_eq_true rfl) (Nat.le_of_ble_eq_true rfl) ?_
  refine lv_astore_n (lv' := [(2, .ref (mo 0)), (1, .ref h0), (0, .ref b)]) hx hb dL_law_15 rfl hl (by decide) rfl (fun ls hl => ?_)
  refine lv_iconst (v := 0) hx hb dL_law_16 (by decide) ?_
  refine lv_istore_n (lv' := [(3, .int 0), (2, .ref (mo 0)), (1, .ref h0), (0, .ref b)]) hx hb dL_law_17 rfl hl (by decide) rfl (fun ls hl => ?_)
  exact law_loop hL X hr hZZ hX hbl rfl rfl 512 0 0 stN stN stN mN zf H locs ls (by omega) (Nat.zero_le _) (by omega) Full_N G (lv_sub hl [3, 2, 1, 0] rfl)
