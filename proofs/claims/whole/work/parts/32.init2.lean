/-- a new box -/
def stN : St := fun K => match K with
  | 0 => f6
  | 1 => flF (-6) 16
  | 7 => flF (-6) 32
  | 9 => flF (-6) 6
  | _ => zf
theorem q_c53 : Cond.methodLink RX1 13 ⟨"[I", "clone", "()Ljava/lang/Object;"⟩ ∈ gT := gT_in 53 (by decide +kernel) (by decide +kernel)
theorem q_c54 : Cond.sameMethod "[I" "java/lang/Object" "clone" "()Ljava/lang/Object;" ∈ gT := gT_in 54 (by decide +kernel) (by decide +kernel)
theorem q_c55 : Cond.native ⟨"java/lang/Object", "clone", "()Ljava/lang/Object;"⟩ ∈ gT := gT_in 55 (by decide +kernel) (by decide +kernel)
theorem q_c56 : Cond.instanceMethod ⟨"java/lang/Object", "clone", "()Ljava/lang/Object;"⟩ ∈ gT := gT_in 56 (by decide +kernel) (by decide +kernel)
theorem q_c57 : Cond.selects "[I" ⟨"[I", "clone", "()Ljava/lang/Object;"⟩ ⟨"java/lang/Object", "clone", "()Ljava/lang/Object;"⟩ ∈ gT := gT_in 57 (by decide +kernel) (by decide +kernel)
theorem q_l59 : Cond.classLink RX1 14 "[I" ∈ gT := gT_in 59 (by decide +kernel) (by decide +kernel)
theorem q_l60 : Cond.classLink RX1 23 RX0 ∈ gT := gT_in 60 (by decide +kernel) (by decide +kernel)
theorem q_l94 : Cond.classLink RX1 30 RX2 ∈ gT := gT_in 94 (by decide +kernel) (by decide +kernel)
theorem q_l45 : Cond.classLink RX3 7 RX1 ∈ gT := gT_in 45 (by decide +kernel) (by decide +kernel)
theorem q_i61 : Cond.instantiable RX0 6 ∈ gT := gT_in 61 (by decide +kernel) (by decide +kernel)
theorem q_i95 : Cond.instantiable RX2 4 ∈ gT := gT_in 95 (by decide +kernel) (by decide +kernel)
theorem q_i46 : Cond.instantiable RX1 4 ∈ gT := gT_in 46 (by decide +kernel) (by decide +kernel)
theorem q_n31 : Cond.initialized RX0 ∈ gT := gT_in 31 (by decide +kernel) (by decide +kernel)
theorem q_n33 : Cond.initialized RX2 ∈ gT := gT_in 33 (by decide +kernel) (by decide +kernel)
theorem q_n30 : Cond.initialized RX1 ∈ gT := gT_in 30 (by decide +kernel) (by decide +kernel)
theorem q_m62 : Cond.methodLink RX1 25 yX0_init ∈ gT := gT_in 62 (by decide +kernel) (by decide +kernel)
theorem q_m63 : Cond.instanceMethod yX0_init ∈ gT := gT_in 63 (by decide +kernel) (by decide +kernel)
theorem q_m64 : Cond.code yX0_init cX0_init 1 none ∈ gT := gT_in 64 (by decide +kernel) (by decide +kernel)
theorem q_m96 : Cond.methodLink RX1 32 yX2_init ∈ gT := gT_in 96 (by decide +kernel) (by decide +kernel)
theorem q_m97 : Cond.instanceMethod yX2_init ∈ gT := gT_in 97 (by decide +kernel) (by decide +kernel)
theorem q_m98 : Cond.code yX2_init cX2_init 1 none ∈ gT := gT_in 98 (by decide +kernel) (by decide +kernel)
theorem q_m48 : Cond.instanceMethod yX1_init ∈ gT := gT_in 48 (by decide +kernel) (by decide +kernel)
theorem q_m49 : Cond.code yX1_init cX1_init 1 none ∈ gT := gT_in 49 (by decide +kernel) (by decide +kernel)
def aX1 (q r bq pq x1 x2 x3 x4 x5 x6 p1 p2 p3 p4 : Nat) : Nat → Nat := fun i => match i with
  | 0 => q | 1 => r | 2 => bq | 3 => pq | 4 => x1 | 5 => x2 | 6 => x3 | 7 => x4 | 8 => x5 | 9 => x6 | 10 => p1 | 11 => p2 | 12 => p3 | _ => p4
theorem pm_X1 (E : EE) (q r bq pq x1 x2 x3 x4 x5 x6 p1 p2 p3 p4 : Nat) (w : va_W) : List.Perm (nP E pq p1 p2 p3 p4 (nB E bq x1 x2 x3 x4 x5 x6 ((r, .inl (E.2.1, 6, .inl f6)) :: (q, .inr (1, [.ref r, .ref bq, .ref pq, .int 0])) :: w))) (wB E (aX1 q r bq pq x1 x2 x3 x4 x5 x6 p1 p2 p3 p4) stN w) := by
  let a := aX1 q r bq pq x1 x2 x3 x4 x5 x6 p1 p2 p3 p4
  have h : List.Perm [13, 12, 11, 10, 3, 9, 8, 7, 6, 5, 4, 2, 1, 0] [0, 1, 2, 3, 4, 5, 6, 7, 8, 9, 10, 11, 12, 13] := by decide
  have h2 := List.Perm.append_right w (List.Perm.map (fun i => (lB E a stN)[i]?.getD (0, .inl (E.2.1, 0, .inl zf))) h)
  exact h2
theorem cases6 {P : Nat → Prop} (h0 : P 0) (h1 : P 1) (h2 : P 2) (h3 : P 3) (h4 : P 4) (h5 : P 5) : ∀ j, j < 6 → P j := by
  intro j hj
  rcases (by omega : j = 0 ∨ j = 1 ∨ j = 2 ∨ j = 3 ∨ j = 4 ∨ j = 5) with q | q | q | q | q | q <;> (rw [q]; assumption)
theorem cases4 {P : Nat → Prop} (h0 : P 0) (h1 : P 1) (h2 : P 2) (h3 : P 3) : ∀ j, j < 4 → P j := by
  intro j hj
  rcases (by omega : j = 0 ∨ j = 1 ∨ j = 2 ∨ j = 3) with q | q | q | q <;> (rw [q]; assumption)
theorem cases3 {P : Nat → Prop} (h0 : P 0) (h1 : P 1) (h2 : P 2) : ∀ j, j < 3 → P j := by
  intro j hj
  rcases (by omega : j = 0 ∨ j = 1 ∨ j = 2) with q | q | q <;> (rw [q]; assumption)
set_option maxHeartbeats 1000000 in
set_option maxRecDepth 100000 in
theorem c_X1_init (l : Launch) (E : EE) (q : Nat) (w : va_W) : Ci l yX1_init cX1_init 1 3 13 252 E [.ref q] ((q, .inr (1, [.null, .null, .null, .int 0])) :: w) (fun w' => ∃ a : Nat → Nat, a 0 = q ∧ w' = wB E a stN w) := by
  refine Ci_mk RX1 rfl (by decide +kernel) (Nat.le_of_ble_eq_true rfl) ?_
  intro p e s m below meth c A ls X hr hin G hl hZ
  have hl : lv_has ls 1 [(0, .ref q)] := hl
  obtain ⟨hx, hb, hml, hown, hts, hK, hA, hlocks⟩ := id X
  obtain ⟨⟨t0, cell, z1, z2, z3, z4, z5, z6, z7, z8⟩, y1, y2, y3, y4⟩ := id hZ
  refine lv_aload_n hx hb dX1_init_0 rfl (lv_at hl 0 rfl) ?_
  refine g_obj X q_oX1 q_oi q_oc hl.1 (Nat.le_of_ble_eq_true rfl) (Nat.le_of_ble_eq_true rfl) dX1_init_1 ?_
  refine lv_aload_n hx hb dX1_init_4 rfl (lv_at hl 0 rfl) ?_
  refine va_getsN hx hb z1 G.2.2 hown (va_Nw.use rfl y2) (fun _ h => h) dX1_init_5 ?_
  refine g_clone (f := f6) X G y3 q_c53 q_c54 q_c55 q_c56 q_c57 z2 z3 z4 z5 z6 z7 z8 hl.1 (Nat.le_of_ble_eq_true rfl) (Nat.le_of_ble_eq_true rfl) (Nat.le_of_ble_eq_true rfl) (Nat.le_of_ble_eq_true rfl) dX1_init_8 (fun r H G => ?_)
  refine va_castA hx hb hown (hts _ q_l59) G.1 0 rfl (va_nm_int (hK.2 0 _ rfl).2) dX1_init_11 ?_
  refine g_putF (ty := .array .int) X G fX1_18 tyX1 tyX1_ok nmX1 hin 1 rfl rfl rfl (by decide +kernel) rfl rfl (Nat.le_of_ble_eq_true rfl) dX1_init_14 (fun H locs G => ?_)
  refine lv_aload_n hx hb dX1_init_17 rfl (lv_at hl 0 rfl) ?_
  refine g_newo (fs := [.null, .null, .null, .null, .null, .null]) tyX0 tyX0_ok X G uX0 q_l60 q_i61 q_n31 (ci := 0) rfl (cases6 rfl rfl rfl rfl rfl rfl) (Nat.le_of_ble_eq_true rfl) (Nat.le_of_ble_eq_true rfl) dX1_init_18 (fun bq H G => ?_)
  refine lv_dup hx hb dX1_init_21 rfl ?_
  refine g_callI (rest := [.ref bq, .ref q]) X hZ q_m62 q_m63 q_n31 q_m64 rfl ⟨by decide +kernel, by decide +kernel, by decide +kernel⟩ (c_X0_init l E bq _) G ⟨Nat.le_of_ble_eq_true rfl, Nat.le_of_ble_eq_true rfl⟩ ⟨Nat.le_of_ble_eq_true rfl, Nat.le_of_ble_eq_true rfl⟩ hl.1 (Nat.le_of_ble_eq_true rfl) dX1_init_22 (fun H locs w' hB G => ?_)
  obtain ⟨x1, x2, x3, x4, x5, x6, rfl⟩ := hB
  refine g_putF (ty := .object RX0) X G fX1_26 tyX1 tyX1_ok nmX1 hin 8 rfl rfl rfl (by decide +kernel) rfl rfl (Nat.le_of_ble_eq_true rfl) dX1_init_25 (fun H locs G => ?_)
  refine lv_aload_n hx hb dX1_init_28 rfl (lv_at hl 0 rfl) ?_
  refine g_newo (fs := [.null, .null, .null, .null]) tyX2 tyX2_ok X G uX2 q_l94 q_i95 q_n33 (ci := 2) rfl (cases4 rfl rfl rfl rfl) (Nat.le_of_ble_eq_true rfl) (Nat.le_of_ble_eq_true rfl) dX1_init_29 (fun pq H G => ?_)
  refine lv_dup hx hb dX1_init_32 rfl ?_
  refine g_callI (rest := [.ref pq, .ref q]) X hZ q_m96 q_m97 q_n33 q_m98 rfl ⟨by decide +kernel, by decide +kernel, by decide +kernel⟩ (c_X2_init l E pq _) G ⟨Nat.le_of_ble_eq_true rfl, Nat.le_of_ble_eq_true rfl⟩ ⟨Nat.le_of_ble_eq_true rfl, Nat.le_of_ble_eq_true rfl⟩ hl.1 (Nat.le_of_ble_eq_true rfl) dX1_init_33 (fun H locs w' hB G => ?_)
  obtain ⟨p1, p2, p3, p4, rfl⟩ := hB
  refine g_putF (ty := .object RX2) X G fX1_33 tyX1 tyX1_ok nmX1 hin 13 rfl rfl rfl (by decide +kernel) rfl rfl (Nat.le_of_ble_eq_true rfl) dX1_init_36 (fun H locs G => ?_)
  refine lv_aload_n hx hb dX1_init_39 rfl (lv_at hl 0 rfl) ?_
  refine lv_iconst (v := 0) hx hb dX1_init_40 (by decide) ?_
  refine g_put X G fX1_37 tyX1 tyX1_ok nmX1 13 rfl rfl rfl (Nat.le_of_ble_eq_true rfl) dX1_init_41 (fun H locs G => ?_)
  have G : Gw E A s (nP E pq p1 p2 p3 p4 (nB E bq x1 x2 x3 x4 x5 x6 ((r, .inl (E.2.1, 6, .inl f6)) :: (q, .inr (1, [.ref r, .ref bq, .ref pq, .int 0])) :: w))) H locs := G
  have G := Gw_perm (pm_X1 E q r bq pq x1 x2 x3 x4 x5 x6 p1 p2 p3 p4 w) G
  exact g_cret X hr G ⟨aX1 q r bq pq x1 x2 x3 x4 x5 x6 p1 p2 p3 p4, rfl, rfl⟩ dX1_init_44
