/-- the law's own end, with 1 on the stack, nothing written that was there before, its room as the claim has it -/
theorem lw_ret {p : Program} {l : Launch} {e : Env} {s : State} {m : MethodId} {below : List Frame} {meth : Method} {c : Code} {b : Nat} (hx : p.tables.exec = Jvm.exec) (hb : c.code = code) (hr : meth.sig.returnType = ret) (hlocks : meth.locks = false) {pc : Nat} {H : Heap} {ls : Array Slot} (hdg : decode code pc = .ok (.ireturn, 1)) : W p l e room_1 s m #[Value.ref b] below meth c H [] 600000 7302250 (lw_Z below #[Value.ref b] s) (F0 m pc ls [.int 1]) := by
  intro T hT X
  obtain ⟨fs, hret, hrun, hended, hW, hframe⟩ := X.leave (v := some (.int 1)) (hlocks := hlocks) (fun h => by rw [hr] at h; cases h)
  have hmeth' : T.vm.method? m = some meth := X.method'
  refine ⟨T.setFrames fs, ?_, .returned (some (.int 1)), hrun, hended, rfl, ⟨_, rfl⟩, hW, hframe⟩
  jvm_step X.here [X.here.top, hx, hb, hdg, hmeth', hr, ret, narrow_b1]
  (try refine ⟨rfl, ?_⟩); (try refine ⟨rfl, ?_⟩)
  first | (intro acts; rw [hret _ acts rfl rfl rfl]) | rw [hret _ _ rfl rfl rfl]
  exact Steps.refl _
/-- what holds at the law's entry: the machine, the code, the tables' words (any of lw_tbl by 'hts w (by decide +kernel)'), the script of L ints xs at the cell b, what the Statement gives of the start (any of its parts by flat_of_before) -/
def lw_At (p : Program) (s : State) (m : MethodId) (meth : Method) (c : Code) (b L : Nat) (xs : Nat → Int32) : Prop :=
  p.tables.exec = Jvm.exec ∧ c.code = code ∧ meth.sig.returnType = ret ∧ c.maxLocals = 4 ∧ s.vm.findClass R_law = some m.cls ∧ (∀ w ∈ lw_tbl, w.before #[Value.ref b] s = true) ∧ va_X b L xs s s.heap ∧ b < s.heap.size ∧ meth.locks = false ∧ (Jvm.Cond.and given_1 narrow_1).before #[Value.ref b] s = true
theorem nI_k (i k : Nat) : nI i + Int32.ofInt (k : Int) = nI (i + k) := by
  show nI i + nI k = nI (i + k)
  exact nI_add i k
theorem tst {L i : Nat} (hL : L ≤ 3072) (hi : i ≤ 10000) : (nI L - 6 < nI i) ↔ L < i + 6 := by
  have h6 : (nI L - 6).toInt = (L : Int) - 6 := by
    rw [Int32.toInt_sub, nI_toInt (by omega), show (6 : Int32).toInt = 6 from by decide]
    rw [Int.bmod_eq_of_le (by omega) (by omega)]
  rw [Int32.lt_iff_toInt_lt, h6, nI_toInt (by omega)]
  omega
theorem tb_out17 {x : Int32} (h0 : ¬ x = 0) (h1 : ¬ x = 1) (h2 : ¬ x = 2) (h3 : ¬ x = 3) (h4 : ¬ x = 4) (h5 : ¬ x = 5) (h6 : ¬ x = 6) (h7 : ¬ x = 7) (h8 : ¬ x = 8) (h9 : ¬ x = 9) (h10 : ¬ x = 10) (h11 : ¬ x = 11) (h12 : ¬ x = 12) (h13 : ¬ x = 13) (h14 : ¬ x = 14) (h15 : ¬ x = 15) (h16 : ¬ x = 16) (h17 : ¬ x = 17) : x.toInt < 0 ∨ 17 < x.toInt := by
  have a0 := i_eq (a := 0) (by decide) h0
  have a1 := i_eq (a := 1) (by decide) h1
  have a2 := i_eq (a := 2) (by decide) h2
  have a3 := i_eq (a := 3) (by decide) h3
  have a4 := i_eq (a := 4) (by decide) h4
  have a5 := i_eq (a := 5) (by decide) h5
  have a6 := i_eq (a := 6) (by decide) h6
  have a7 := i_eq (a := 7) (by decide) h7
  have a8 := i_eq (a := 8) (by decide) h8
  have a9 := i_eq (a := 9) (by decide) h9
  have a10 := i_eq (a := 10) (by decide) h10
  have a11 := i_eq (a := 11) (by decide) h11
  have a12 := i_eq (a := 12) (by decide) h12
  have a13 := i_eq (a := 13) (by decide) h13
  have a14 := i_eq (a := 14) (by decide) h14
  have a15 := i_eq (a := 15) (by decide) h15
  have a16 := i_eq (a := 16) (by decide) h16
  have a17 := i_eq (a := 17) (by decide) h17
  omega
set_option maxHeartbeats 4000000 in
theorem law_loop {p : Program} {l : Launch} {e : Env} {s : State} {m : MethodId} {below : List Frame} {meth : Method} {c : Code} {E : EE} {a b0 b1 mo : Nat → Nat} {h0 g0 k0 : Nat} {fo : Nat → Option Nat} {b L : Nat} {xs : Nat → Int32} (hL : L ≤ 3072) (X : Cx p s m #[Value.ref b] meth c cL_law 4 RL E (AA s)) (hr : meth.sig.returnType = ret) (hZ : ZZ (AA s) s) (hX : va_X b L xs s s.heap) (hbl : b < s.heap.size) (hf0 : fo 0 = some (b0 0)) (hf1 : fo 1 = some (b1 0)) :
    ∀ (n i T : Nat) (st i0 i1 mm : St) (kp : Nat → Int32) (H : Heap) (locs : List Loc) (ls : Array Slot), L < i + 6 * n + 6 → i ≤ L → T + 100 * n ≤ 100000 → Full st i0 i1 kp mm T → Gw E (AA s) s (wL E a b0 b1 mo h0 g0 k0 fo st i0 i1 kp mm) H locs → lv_has ls 4 [(0, .ref b), (1, .ref h0), (2, .ref (mo 0)), (3, .int (nI i))] → LwW p l e s m below meth c b H locs 18 ls := by
  obtain ⟨hx, hb, hml, hown, hts, hK, hA, hlocks⟩ := id X
  have hbA : ¬ AA s b := Nat.not_le.mpr hbl
  have hend : ∀ (i : Nat) (st i0 i1 mm : St) (kp : Nat → Int32) (H : Heap) (locs : List Loc) (ls : Array Slot), Gw E (AA s) s (wL E a b0 b1 mo h0 g0 k0 fo st i0 i1 kp mm) H locs → LwW p l e s m below meth c b H locs 780 ls := by
    intro i st i0 i1 mm kp H locs ls G
    refine lv_iconst (v := 1) hx hb dL_law_780 (by decide) ?_
    refine va_forget (fun q hq => G.2.2.2.2 q hq) ?_
    refine W.widen (k := 600000) (n := 7302250) (Nat.le_of_ble_eq_true rfl) (Nat.le_of_ble_eq_true rfl) ?_
    exact lw_ret hx hb hr hlocks dL_law_781
  intro n
  induction n with
  | zero =>
    intro i T st i0 i1 mm kp H locs ls h1 h2 h3 F G hl
    refine lv_iload_n hx hb dL_law_18 rfl (lv_at hl 3 rfl) ?_
    refine lv_aload_n hx hb dL_law_19 rfl (lv_at hl 0 rfl) ?_
    refine va_slen hx hb hX hbl hbA G.2.2 dL_law_20 ?_
    refine lv_bipush (v := 6) hx hb dL_law_21 (by decide) ?_
    refine lv_isub hx hb dL_law_23 ?_
    refine lv_icmp_gt (tgt := 780) hx hb dL_law_24 (by decide) (fun _ => ?_) (fun c1 => ?_)
    · exact hend i st i0 i1 mm kp H locs ls G
    · exact absurd ((tst hL (by omega)).mpr (by omega)) c1
  | succ n ih =>
    intro i T st i0 i1 mm kp H locs ls h1 h2 h3 F G hl
    refine lv_iload_n hx hb dL_law_18 rfl (lv_at hl 3 rfl) ?_
    refine lv_aload_n hx hb dL_law_19 rfl (lv_at hl 0 rfl) ?_
    refine va_slen hx hb hX hbl hbA G.2.2 dL_law_20 ?_
    refine lv_bipush (v := 6) hx hb dL_law_21 (by decide) ?_
    refine lv_isub hx hb dL_law_23 ?_
    refine lv_icmp_gt (tgt := 780) hx hb dL_law_24 (by decide) (fun _ => ?_) (fun c1 => ?_)
    · exact hend i st i0 i1 mm kp H locs ls G
    have hi : i + 6 ≤ L := by
      rcases Nat.lt_or_ge L (i + 6) with q | q
      · exact absurd ((tst hL (by omega)).mpr q) c1
      · exact q
    have hT : T + 100 ≤ 100000 := by omega
    have TL : ∀ (st i0 i1 mm : St) (kp : Nat → Int32) (H : Heap) (locs : List Loc), Full st i0 i1 kp mm (T + 100) → Gw E (AA s) s (wL E a b0 b1 mo h0 g0 k0 fo st i0 i1 kp mm) H locs → LwW p l e s m below meth c b H locs 774 ls := by
      intro st i0 i1 mm kp H locs F G
      refine lv_iinc (v := nI (i + 6)) (lv' := [(3, .int (nI (i + 6))), (0, .ref b), (1, .ref h0), (2, .ref (mo 0))]) hx hb dL_law_774 hl (k := 3) rfl (nI_k i 6) (by decide) rfl (fun ls hl => ?_)
      refine lv_goto (tgt := 18) hx hb dL_law_777 (by decide) ?_
      exact ih (i + 6) (T + 100) st i0 i1 mm kp H locs ls (by omega) (by omega) (by omega) F G (lv_sub hl [1, 2, 3, 0] rfl)
    refine lv_aload_n hx hb dL_law_27 rfl (lv_at hl 0 rfl) ?_
    refine lv_iload_n hx hb dL_law_28 rfl (lv_at hl 3 rfl) ?_
    refine g_sld (j := i) X hX hbl hbA G rfl (by omega) hL dL_law_29 ?_
    refine lv_bipush (v := 31) hx hb dL_law_30 (by decide) ?_
    refine lv_iand hx hb dL_law_32 ?_
    generalize xs i &&& 31 = v
    by_cases c20 : v = 0
    · refine lv_tableIn (off := 87) (tgt := 120) hx hb dL_law_33 (by rw [c20]; decide) (by rw [c20]; decide) (by rw [c20]; rfl) (by decide) ?_
      exact lc_rule hL hi hT X hZ hX hbl hf0 hf1 F G hl TL
    by_cases c21 : v = 1
    · refine lv_tableIn (off := 120) (tgt := 153) hx hb dL_law_33 (by rw [c21]; decide) (by rw [c21]; decide) (by rw [c21]; rfl) (by decide) ?_
      exact lc_out hL hi hT X hZ hX hbl hf0 hf1 F G hl TL
    by_cases c22 : v = 2
    · refine lv_tableIn (off := 183) (tgt := 216) hx hb dL_law_33 (by rw [c22]; decide) (by rw [c22]; decide) (by rw [c22]; rfl) (by decide) ?_
      exact lc_in hL hi hT X hZ hX hbl hf0 hf1 F G hl TL
    by_cases c23 : v = 3
    · refine lv_tableIn (off := 236) (tgt := 269) hx hb dL_law_33 (by rw [c23]; decide) (by rw [c23]; decide) (by rw [c23]; rfl) (by decide) ?_
      exact lc_turn hL hi hT X hZ hX hbl hf0 hf1 F G hl TL
    by_cases c24 : v = 4
    · refine lv_tableIn (off := 289) (tgt := 322) hx hb dL_law_33 (by rw [c24]; decide) (by rw [c24]; decide) (by rw [c24]; rfl) (by decide) ?_
      exact lc_part hL hi hT X hZ hX hbl hf0 hf1 F G hl TL
    by_cases c25 : v = 5
    · refine lv_tableIn (off := 352) (tgt := 385) hx hb dL_law_33 (by rw [c25]; decide) (by rw [c25]; decide) (by rw [c25]; rfl) (by decide) ?_
      exact lc_tick hL hi hT X hZ hX hbl hf0 hf1 F G hl TL
    by_cases c26 : v = 6
    · refine lv_tableIn (off := 375) (tgt := 408) hx hb dL_law_33 (by rw [c26]; decide) (by rw [c26]; decide) (by rw [c26]; rfl) (by decide) ?_
      exact lc_drop hL hi hT X hZ hX hbl hf0 hf1 F G hl TL
    by_cases c27 : v = 7
    · refine lv_tableIn (off := 398) (tgt := 431) hx hb dL_law_33 (by rw [c27]; decide) (by rw [c27]; decide) (by rw [c27]; rfl) (by decide) ?_
      exact lc_of hL hi hT X hZ hX hbl hf0 hf1 F G hl TL
    by_cases c28 : v = 8
    · refine lv_tableIn (off := 431) (tgt := 464) hx hb dL_law_33 (by rw [c28]; decide) (by rw [c28]; decide) (by rw [c28]; rfl) (by decide) ?_
      exact lc_sent hL hi hT X hZ hX hbl hf0 hf1 F G hl TL
    by_cases c29 : v = 9
    · refine lv_tableIn (off := 474) (tgt := 507) hx hb dL_law_33 (by rw [c29]; decide) (by rw [c29]; decide) (by rw [c29]; rfl) (by decide) ?_
      exact lc_find hL hi hT X hZ hX hbl hf0 hf1 F G hl TL
    by_cases c30 : v = 10
    · refine lv_tableIn (off := 527) (tgt := 560) hx hb dL_law_33 (by rw [c30]; decide) (by rw [c30]; decide) (by rw [c30]; rfl) (by decide) ?_
      exact lc_next hL hi hT X hZ hX hbl hf0 hf1 F G hl TL
    by_cases c31 : v = 11
    · refine lv_tableIn (off := 560) (tgt := 593) hx hb dL_law_33 (by rw [c31]; decide) (by rw [c31]; decide) (by rw [c31]; rfl) (by decide) ?_
      exact lc_why hL hi hT X hZ hX hbl hf0 hf1 F G hl TL
    by_cases c32 : v = 12
    · refine lv_tableIn (off := 603) (tgt := 636) hx hb dL_law_33 (by rw [c32]; decide) (by rw [c32]; decide) (by rw [c32]; rfl) (by decide) ?_
      exact lc_block hL hi hT X hZ hX hbl hf0 hf1 F G hl TL
    by_cases c33 : v = 13
    · refine lv_tableIn (off := 626) (tgt := 659) hx hb dL_law_33 (by rw [c33]; decide) (by rw [c33]; decide) (by rw [c33]; rfl) (by decide) ?_
      exact lc_host hL hi hT X hZ hX hbl hf0 hf1 F G hl TL
    by_cases c34 : v = 14
    · refine lv_tableIn (off := 659) (tgt := 692) hx hb dL_law_33 (by rw [c34]; decide) (by rw [c34]; decide) (by rw [c34]; rfl) (by decide) ?_
      exact lc_soon hL hi hT X hZ hX hbl hf0 hf1 F G hl TL
    by_cases c35 : v = 15
    · refine lv_tableIn (off := 672) (tgt := 705) hx hb dL_law_33 (by rw [c35]; decide) (by rw [c35]; decide) (by rw [c35]; rfl) (by decide) ?_
      exact lc_image hL hi hT X hZ hX hbl hf0 hf1 F G hl TL
    by_cases c36 : v = 16
    · refine lv_tableIn (off := 695) (tgt := 728) hx hb dL_law_33 (by rw [c36]; decide) (by rw [c36]; decide) (by rw [c36]; rfl) (by decide) ?_
      exact lc_restore hL hi hT X hZ hX hbl hf0 hf1 F G hl TL
    by_cases c37 : v = 17
    · refine lv_tableIn (off := 718) (tgt := 751) hx hb dL_law_33 (by rw [c37]; decide) (by rw [c37]; decide) (by rw [c37]; rfl) (by decide) ?_
      exact lc_count hL hi hT X hZ hX hbl hf0 hf1 F G hl TL
    refine lv_tableOut (tgt := 774) hx hb dL_law_33 (tb_out17 c20 c21 c22 c23 c24 c25 c26 c27 c28 c29 c30 c31 c32 c33 c34 c35 c36 c37) (by decide) ?_
    exact TL st i0 i1 mm kp H locs (Full_mono (Nat.le_add_right T 100) F) G
