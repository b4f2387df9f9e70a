def flF (v : Int32) (n : Nat) : Nat → Int32 := fun j => if j < n then v else 0
theorem fl_form (v : Int32) : ∀ (n i : Nat) (f : Nat → Int32) (j : Nat), iF (fun i g => upd g i v) n i f j = if i ≤ j ∧ j < i + n then v else f j
  | 0, i, f, j => by rw [if_neg (by omega)]; rfl
  | n + 1, i, f, j => by
    rw [iF_s, fl_form v n (i + 1) (upd f i v) j]
    unfold upd
    by_cases hj : j = i
    · rw [if_neg (by omega), if_pos hj, if_pos (by omega)]
    · rw [if_neg hj]
      by_cases hr : i ≤ j ∧ j < i + (n + 1)
      · rw [if_pos hr, if_pos (by omega)]
      · rw [if_neg hr, if_neg (by omega)]
theorem fl_eq (v : Int32) (n : Nat) : iF (fun i g => upd g i v) n 0 (fun _ => 0) = flF v n := by
  funext j
  rw [fl_form]
  unfold flF
  by_cases h : j < n
  · rw [if_pos h, if_pos (by omega)]
  · rw [if_neg h, if_neg (by omega)]
theorem set_at {α : Type} {w : List α} {q : Nat} {x y : α} (h : w[q]? = some x) : (w.set q y)[q]? = some y := by
  rw [List.getElem?_set_self (List.getElem?_eq_some_iff.mp h).1]
set_option maxHeartbeats 1000000 in
theorem c_J7_fill (l : Launch) (E : EE) (w : va_W) (t n : Nat) (f : Nat → Int32) (v : Int32) (q0 : Nat) (hn : n < 100000) (he : w[q0]? = some (t, .inl (E.2.1, n, .inl f))) : Cv l yJ7_fill_53178 cJ7_fill_53178 4 1 E [.ref t, .int v] w (w.set q0 (t, .inl (E.2.1, n, .inl (iF (fun i g => upd g i v) n 0 f)))) := by
  refine Cv_mk RJ7 rfl (by decide +kernel) (Nat.le_of_ble_eq_true rfl) ?_
  intro p e s m below meth c A ls X hr G hl
  have hl : lv_has ls 4 [(0, .ref t), (1, .int v)] := hl
  obtain ⟨hx, hb, hml, hown, hts, hK, hA, hlocks⟩ := id X
  refine lv_iconst (v := 0) hx hb dJ7_fill_53178_0 (by decide) ?_
  refine lv_istore_n (lv' := [(2, .int 0), (0, .ref t), (1, .int v)]) hx hb dJ7_fill_53178_1 rfl hl (by decide) rfl (fun ls hl => ?_)
  refine lv_aload_n hx hb dJ7_fill_53178_2 rfl (lv_at hl 1 rfl) ?_
  refine va_alen (v := nI n) hx hb hK G.1 q0 0 he rfl rfl dJ7_fill_53178_3 ?_
  refine lv_istore_n (lv' := [(3, .int (nI n)), (2, .int 0), (0, .ref t), (1, .int v)]) hx hb dJ7_fill_53178_4 rfl hl (by decide) rfl (fun ls hl => ?_)
  have LP : ∀ (k i : Nat) (g : Nat → Int32) (H : Heap) (locs : List Loc) (ls : Array Slot), i + k = n → iF (fun i g => upd g i v) k i g = iF (fun i g => upd g i v) n 0 f → Gw E A s (w.set q0 (t, .inl (E.2.1, n, .inl g))) H locs → lv_has ls 4 [(0, .ref t), (1, .int v), (2, .int (nI i)), (3, .int (nI n))] → W p l e (rmD 1) s m ([.ref t, .int v] : List Value).toArray below meth c H locs 0 0 (MQ below (CvQ E A (w.set q0 (t, .inl (E.2.1, n, .inl (iF (fun i g => upd g i v) n 0 f))))) ([.ref t, .int v] : List Value).toArray s 0 0 A) (F0 m 5 ls []) := by
    intro k
    induction k with
    | zero =>
      intro i g H locs ls hi hR G hl
      refine lv_iload_n hx hb dJ7_fill_53178_5 rfl (lv_at hl 2 rfl) ?_
      refine lv_iload_n hx hb dJ7_fill_53178_6 rfl (lv_at hl 3 rfl) ?_
      refine n_cmp_ge (tgt := 20) i n rfl rfl (by omega) (by omega) hx hb dJ7_fill_53178_7 (by decide) (fun c2 => ?_) (fun c2 => absurd c2 (by omega))
      exact g_vret X hr G (by rw [← hR]; rfl) dJ7_fill_53178_20
    | succ k ih =>
      intro i g H locs ls hi hR G hl
      refine lv_iload_n hx hb dJ7_fill_53178_5 rfl (lv_at hl 2 rfl) ?_
      refine lv_iload_n hx hb dJ7_fill_53178_6 rfl (lv_at hl 3 rfl) ?_
      refine n_cmp_ge (tgt := 20) i n rfl rfl (by omega) (by omega) hx hb dJ7_fill_53178_7 (by decide) (fun c2 => absurd c2 (by omega)) (fun c2 => ?_)
      refine lv_aload_n hx hb dJ7_fill_53178_10 rfl (lv_at hl 0 rfl) ?_
      refine lv_iload_n hx hb dJ7_fill_53178_11 rfl (lv_at hl 2 rfl) ?_
      refine lv_iload_n hx hb dJ7_fill_53178_12 rfl (lv_at hl 1 rfl) ?_
      refine g_iast (j := i) X G q0 (set_at he) rfl (by omega) (by omega) dJ7_fill_53178_13 (fun H locs G => ?_)
      rw [List.set_set] at G
      refine lv_iinc (v := nI (i + 1)) (lv' := [(2, .int (nI (i + 1))), (0, .ref t), (1, .int v), (3, .int (nI n))]) hx hb dJ7_fill_53178_14 hl (k := 2) rfl (nI_inc _) (by decide) rfl (fun ls hl => ?_)
      refine lv_goto (tgt := 5) hx hb dJ7_fill_53178_17 (by decide) ?_
      exact ih (i + 1) (upd g i v) _ _ ls (by omega) (by rw [← hR]; rfl) G (lv_sub hl [1, 2, 0, 3] rfl)
  have hw : w.set q0 (t, .inl (E.2.1, n, .inl f)) = w := by
    obtain ⟨h1, h2⟩ := List.getElem?_eq_some_iff.mp he
    rw [← h2]
    exact List.set_getElem_self h1
  exact LP n 0 f _ _ ls (by omega) rfl (by rw [hw]; exact G) (lv_sub hl [2, 3, 1, 0] rfl)
theorem q_oi : Cond.instanceMethod objectInit ∈ gT := gT_in 43 (by decide +kernel) (by decide +kernel)
theorem q_oc : Cond.code objectInit ⟨#[0xb1]⟩ 1 none ∈ gT := gT_in 44 (by decide +kernel) (by decide +kernel)
theorem q_oX0 : Cond.methodLink RX0 3 objectInit ∈ gT := gT_in 65 (by decide +kernel) (by decide +kernel)
theorem q_oX1 : Cond.methodLink RX1 3 objectInit ∈ gT := gT_in 50 (by decide +kernel) (by decide +kernel)
theorem q_oX2 : Cond.methodLink RX2 3 objectInit ∈ gT := gT_in 99 (by decide +kernel) (by decide +kernel)
theorem q_oX3 : Cond.methodLink RX3 1 objectInit ∈ gT := gT_in 42 (by decide +kernel) (by decide +kernel)
theorem q_oX4 : Cond.methodLink RX4 1 objectInit ∈ gT := gT_in 454 (by decide +kernel) (by decide +kernel)
theorem q_ai : Cond.arrayClass .int ∈ gT := gT_in 93 (by decide +kernel) (by decide +kernel)
theorem q_az : Cond.arrayClass .boolean ∈ gT := gT_in 142 (by decide +kernel) (by decide +kernel)
def zf : Nat → Int32 := fun _ => 0
/-- the arrays of new bindings, and their object, in the order in which they came -/
abbrev nB (E : EE) (q x1 x2 x3 x4 x5 x6 : Nat) (w : va_W) : va_W :=
  (x6, .inl (E.2.1, 80, .inl zf)) :: (x5, .inl (E.2.1, 16, .inl zf)) :: (x4, .inl (E.2.1, 16, .inl zf)) :: (x3, .inl (E.2.1, 16, .inl zf)) :: (x2, .inl (E.2.1, 16, .inl zf)) :: (x1, .inl (E.2.1, 16, .inl (flF (-6) 16))) :: (q, .inr (0, [.ref x1, .ref x2, .ref x3, .ref x4, .ref x5, .ref x6])) :: w
set_option maxHeartbeats 1000000 in
set_option maxRecDepth 100000 in
theorem c_X0_init (l : Launch) (E : EE) (q : Nat) (w : va_W) : Ci l yX0_init cX0_init 1 2 6 160 E [.ref q] ((q, .inr (0, [.null, .null, .null, .null, .null, .null])) :: w) (fun w' => ∃ x1 x2 x3 x4 x5 x6, w' = nB E q x1 x2 x3 x4 x5 x6 w) := by
  refine Ci_mk RX0 rfl (by decide +kernel) (Nat.le_of_ble_eq_true rfl) ?_
  intro p e s m below meth c A ls X hr hin G hl hZ
  have hl : lv_has ls 1 [(0, .ref q)] := hl
  obtain ⟨hx, hb, hml, hown, hts, hK, hA, hlocks⟩ := id X
  refine lv_aload_n hx hb dX0_init_0 rfl (lv_at hl 0 rfl) ?_
  refine g_obj X q_oX0 q_oi q_oc hl.1 (Nat.le_of_ble_eq_true rfl) (Nat.le_of_ble_eq_true rfl) dX0_init_1 ?_
  refine lv_aload_n hx hb dX0_init_4 rfl (lv_at hl 0 rfl) ?_
  refine lv_bipush (v := 16) hx hb dX0_init_5 (by decide) ?_
  refine g_newi (n := 16) X G q_ai rfl (by decide) (Nat.le_of_ble_eq_true rfl) (Nat.le_of_ble_eq_true rfl) dX0_init_7 (fun x1 H G => ?_)
  refine g_putF (ty := .array .int) X G fX0_9 tyX0 tyX0_ok nmX0 hin 1 rfl rfl rfl (by decide +kernel) rfl rfl (Nat.le_of_ble_eq_true rfl) dX0_init_9 (fun H locs G => ?_)
  refine lv_aload_n hx hb dX0_init_12 rfl (lv_at hl 0 rfl) ?_
  refine lv_bipush (v := 16) hx hb dX0_init_13 (by decide) ?_
  refine g_newi (n := 16) X G q_ai rfl (by decide) (Nat.le_of_ble_eq_true rfl) (Nat.le_of_ble_eq_true rfl) dX0_init_15 (fun x2 H G => ?_)
  refine g_putF (ty := .array .int) X G fX0_15 tyX0 tyX0_ok nmX0 hin 2 rfl rfl rfl (by decide +kernel) rfl rfl (Nat.le_of_ble_eq_true rfl) dX0_init_17 (fun H locs G => ?_)
  refine lv_aload_n hx hb dX0_init_20 rfl (lv_at hl 0 rfl) ?_
  refine lv_bipush (v := 16) hx hb dX0_init_21 (by decide) ?_
  refine g_newi (n := 16) X G q_ai rfl (by decide) (Nat.le_of_ble_eq_true rfl) (Nat.le_of_ble_eq_true rfl) dX0_init_23 (fun x3 H G => ?_)
  refine g_putF (ty := .array .int) X G fX0_18 tyX0 tyX0_ok nmX0 hin 3 rfl rfl rfl (by decide +kernel) rfl rfl (Nat.le_of_ble_eq_true rfl) dX0_init_25 (fun H locs G => ?_)
  refine lv_aload_n hx hb dX0_init_28 rfl (lv_at hl 0 rfl) ?_
  refine lv_bipush (v := 16) hx hb dX0_init_29 (by decide) ?_
  refine g_newi (n := 16) X G q_ai rfl (by decide) (Nat.le_of_ble_eq_true rfl) (Nat.le_of_ble_eq_true rfl) dX0_init_31 (fun x4 H G => ?_)
  refine g_putF (ty := .array .int) X G fX0_21 tyX0 tyX0_ok nmX0 hin 4 rfl rfl rfl (by decide +kernel) rfl rfl (Nat.le_of_ble_eq_true rfl) dX0_init_33 (fun H locs G => ?_)
  refine lv_aload_n hx hb dX0_init_36 rfl (lv_at hl 0 rfl) ?_
  refine lv_bipush (v := 16) hx hb dX0_init_37 (by decide) ?_
  refine g_newi (n := 16) X G q_ai rfl (by decide) (Nat.le_of_ble_eq_true rfl) (Nat.le_of_ble_eq_true rfl) dX0_init_39 (fun x5 H G => ?_)
  refine g_putF (ty := .array .int) X G fX0_24 tyX0 tyX0_ok nmX0 hin 5 rfl rfl rfl (by decide +kernel) rfl rfl (Nat.le_of_ble_eq_true rfl) dX0_init_41 (fun H locs G => ?_)
  refine lv_aload_n hx hb dX0_init_44 rfl (lv_at hl 0 rfl) ?_
  refine lv_bipush (v := 80) hx hb dX0_init_45 (by decide) ?_
  refine g_newi (n := 80) X G q_ai rfl (by decide) (Nat.le_of_ble_eq_true rfl) (Nat.le_of_ble_eq_true rfl) dX0_init_47 (fun x6 H G => ?_)
  refine g_putF (ty := .array .int) X G fX0_27 tyX0 tyX0_ok nmX0 hin 6 rfl rfl rfl (by decide +kernel) rfl rfl (Nat.le_of_ble_eq_true rfl) dX0_init_49 (fun H locs G => ?_)
  have G : Gw E A s ((x6, .inl (E.2.1, 80, .inl zf)) :: (x5, .inl (E.2.1, 16, .inl zf)) :: (x4, .inl (E.2.1, 16, .inl zf)) :: (x3, .inl (E.2.1, 16, .inl zf)) :: (x2, .inl (E.2.1, 16, .inl zf)) :: (x1, .inl (E.2.1, 16, .inl zf)) :: (q, .inr (0, [.ref x1, .ref x2, .ref x3, .ref x4, .ref x5, .ref x6])) :: w) H locs := G
  refine lv_aload_n hx hb dX0_init_52 rfl (lv_at hl 0 rfl) ?_
  refine g_get X G fX0_9 6 rfl rfl dX0_init_53 ?_
  refine lv_bipush (v := (-6)) hx hb dX0_init_56 (by decide) ?_
  refine g_callSv (As := [.ref x1, .int (-6)]) (rest := []) X kX0_30 (c_J7_fill l E _ x1 16 zf (-6) 5 (by decide) rfl) G ⟨Nat.le_of_ble_eq_true rfl, Nat.le_of_ble_eq_true rfl⟩ ⟨Nat.le_of_ble_eq_true rfl, Nat.le_of_ble_eq_true rfl⟩ rfl hl.1 rfl (Nat.le_of_ble_eq_true rfl) dX0_init_58 (fun H locs G => ?_)
  have e0 := fl_eq (-6) 16
  have e1 : iF (fun i g => upd g i (-6)) 16 0 zf = flF (-6) 16 := e0
  rw [e1] at G
  exact g_cret X hr G ⟨x1, x2, x3, x4, x5, x6, rfl⟩ dX0_init_61
/-- the arrays of new packets, and their object -/
abbrev nP (E : EE) (q x1 x2 x3 x4 : Nat) (w : va_W) : va_W :=
  (x4, .inl (E.2.1, 6, .inl zf)) :: (x3, .inl (E.2.1, 6, .inl (flF (-6) 6))) :: (x2, .inl (E.2.1, 32, .inl zf)) :: (x1, .inl (E.2.1, 32, .inl (flF (-6) 32))) :: (q, .inr (2, [.ref x1, .ref x2, .ref x3, .ref x4])) :: w
set_option maxHeartbeats 1000000 in
set_option maxRecDepth 100000 in
theorem c_X2_init (l : Launch) (E : EE) (q : Nat) (w : va_W) : Ci l yX2_init cX2_init 1 2 4 76 E [.ref q] ((q, .inr (2, [.null, .null, .null, .null])) :: w) (fun w' => ∃ x1 x2 x3 x4, w' = nP E q x1 x2 x3 x4 w) := by
  refine Ci_mk RX2 rfl (by decide +kernel) (Nat.le_of_ble_eq_true rfl) ?_
  intro p e s m below meth c A ls X hr hin G hl hZ
  have hl : lv_has ls 1 [(0, .ref q)] := hl
  obtain ⟨hx, hb, hml, hown, hts, hK, hA, hlocks⟩ := id X
  refine lv_aload_n hx hb dX2_init_0 rfl (lv_at hl 0 rfl) ?_
  refine g_obj X q_oX2 q_oi q_oc hl.1 (Nat.le_of_ble_eq_true rfl) (Nat.le_of_ble_eq_true rfl) dX2_init_1 ?_
  refine lv_aload_n hx hb dX2_init_4 rfl (lv_at hl 0 rfl) ?_
  refine lv_bipush (v := 32) hx hb dX2_init_5 (by decide) ?_
  refine g_newi (n := 32) X G q_ai rfl (by decide) (Nat.le_of_ble_eq_true rfl) (Nat.le_of_ble_eq_true rfl) dX2_init_7 (fun x1 H G => ?_)
  refine g_putF (ty := .array .int) X G fX2_9 tyX2 tyX2_ok nmX2 hin 1 rfl rfl rfl (by decide +kernel) rfl rfl (Nat.le_of_ble_eq_true rfl) dX2_init_9 (fun H locs G => ?_)
  refine lv_aload_n hx hb dX2_init_12 rfl (lv_at hl 0 rfl) ?_
  refine lv_bipush (v := 32) hx hb dX2_init_13 (by decide) ?_
  refine g_newi (n := 32) X G q_ai rfl (by decide) (Nat.le_of_ble_eq_true rfl) (Nat.le_of_ble_eq_true rfl) dX2_init_15 (fun x2 H G => ?_)
  refine g_putF (ty := .array .int) X G fX2_15 tyX2 tyX2_ok nmX2 hin 2 rfl rfl rfl (by decide +kernel) rfl rfl (Nat.le_of_ble_eq_true rfl) dX2_init_17 (fun H locs G => ?_)
  refine lv_aload_n hx hb dX2_init_20 rfl (lv_at hl 0 rfl) ?_
  refine lv_bipush (v := 6) hx hb dX2_init_21 (by decide) ?_
  refine g_newi (n := 6) X G q_ai rfl (by decide) (Nat.le_of_ble_eq_true rfl) (Nat.le_of_ble_eq_true rfl) dX2_init_23 (fun x3 H G => ?_)
  refine g_putF (ty := .array .int) X G fX2_18 tyX2 tyX2_ok nmX2 hin 3 rfl rfl rfl (by decide +kernel) rfl rfl (Nat.le_of_ble_eq_true rfl) dX2_init_25 (fun H locs G => ?_)
  refine lv_aload_n hx hb dX2_init_28 rfl (lv_at hl 0 rfl) ?_
  refine lv_bipush (v := 6) hx hb dX2_init_29 (by decide) ?_
  refine g_newi (n := 6) X G q_ai rfl (by decide) (Nat.le_of_ble_eq_true rfl) (Nat.le_of_ble_eq_true rfl) dX2_init_31 (fun x4 H G => ?_)
  refine g_putF (ty := .array .int) X G fX2_21 tyX2 tyX2_ok nmX2 hin 4 rfl rfl rfl (by decide +kernel) rfl rfl (Nat.le_of_ble_eq_true rfl) dX2_init_33 (fun H locs G => ?_)
  have G : Gw E A s ((x4, .inl (E.2.1, 6, .inl zf)) :: (x3, .inl (E.2.1, 6, .inl zf)) :: (x2, .inl (E.2.1, 32, .inl zf)) :: (x1, .inl (E.2.1, 32, .inl zf)) :: (q, .inr (2, [.ref x1, .ref x2, .ref x3, .ref x4])) :: w) H locs := G
  refine lv_aload_n hx hb dX2_init_36 rfl (lv_at hl 0 rfl) ?_
  refine g_get X G fX2_9 4 rfl rfl dX2_init_37 ?_
  refine lv_bipush (v := (-6)) hx hb dX2_init_40 (by decide) ?_
  refine g_callSv (As := [.ref x1, .int (-6)]) (rest := []) X kX2_24 (c_J7_fill l E _ x1 32 zf (-6) 3 (by decide) rfl) G ⟨Nat.le_of_ble_eq_true rfl, Nat.le_of_ble_eq_true rfl⟩ ⟨Nat.le_of_ble_eq_true rfl, Nat.le_of_ble_eq_true rfl⟩ rfl hl.1 rfl (Nat.le_of_ble_eq_true rfl) dX2_init_42 (fun H locs G => ?_)
  have e0 := fl_eq (-6) 32
  have e1 : iF (fun i g => upd g i (-6)) 32 0 zf = flF (-6) 32 := e0
  rw [e1] at G
  refine lv_aload_n hx hb dX2_init_45 rfl (lv_at hl 0 rfl) ?_
  refine g_get X G fX2_18 4 rfl rfl dX2_init_46 ?_
  refine lv_bipush (v := (-6)) hx hb dX2_init_49 (by decide) ?_
  refine g_callSv (As := [.ref x3, .int (-6)]) (rest := []) X kX2_24 (c_J7_fill l E _ x3 6 zf (-6) 1 (by decide) rfl) G ⟨Nat.le_of_ble_eq_true rfl, Nat.le_of_ble_eq_true rfl⟩ ⟨Nat.le_of_ble_eq_true rfl, Nat.le_of_ble_eq_true rfl⟩ rfl hl.1 rfl (Nat.le_of_ble_eq_true rfl) dX2_init_51 (fun H locs G => ?_)
  have e2 := fl_eq (-6) 6
  have e3 : iF (fun i g => upd g i (-6)) 6 0 zf = flF (-6) 6 := e2
  rw [e3] at G
  exact g_cret X hr G ⟨x1, x2, x3, x4, rfl⟩ dX2_init_54
