theorem rg_1 {x : Int32} {n : Nat} (h : x < 0) : rg x n = false := by
  unfold rg
  rw [Int32.lt_iff_toInt_lt, Int32.toInt_zero] at h
  rw [decide_eq_false (by omega)]
  rfl
theorem rg_2 {x : Int32} {n : Nat} (hn : n < 2 ^ 31) (h : nI n ≤ x) : rg x n = false := by
  unfold rg
  rw [Int32.le_iff_toInt_le, nI_toInt hn] at h
  rw [show decide (x.toInt < (n : Int)) = false from decide_eq_false (by omega), Bool.and_false]
theorem rg_3 {x : Int32} {n : Nat} (hn : n < 2 ^ 31) (g : ¬ x < 0) (h : ¬ nI n ≤ x) : rg x n = true := by
  unfold rg
  rw [Int32.lt_iff_toInt_lt, Int32.toInt_zero] at g
  rw [Int32.le_iff_toInt_le, nI_toInt hn] at h
  rw [decide_eq_true (by omega), decide_eq_true (by omega)]
  rfl
theorem rgR_nat2 {j : Nat} {p : Int32} (hj : j < 5) (h : rgR (nI j) p = true) : ∃ k, k < 32 ∧ (j = 4 → k < 16) ∧ p = nI k := by
  obtain ⟨j2, k, h1, h2, h3, h4, h5⟩ := rgR_nat h
  have e : j = j2 := (nI_eq (by omega) (by omega)).mp h4
  subst e
  exact ⟨k, h2, h3, h5⟩
theorem frB_2' {x lo hi : Int32} (h : ¬ x ≤ hi) : frB x lo hi = false := by
  unfold frB
  rw [decide_eq_false h, Bool.and_false]
theorem frB_3' {x lo hi : Int32} (g : ¬ x < lo) (h : x ≤ hi) : frB x lo hi = true := by
  unfold frB
  rw [Int32.lt_iff_toInt_lt] at g
  rw [decide_eq_true h, decide_eq_true (show lo ≤ x by rw [Int32.le_iff_toInt_le]; omega)]
  rfl
theorem rat_nat {x : Int32} (g : ¬ x < 10) (h : x < 16) : ∃ j, 10 ≤ j ∧ j ≤ 15 ∧ x = nI j := by
  rw [Int32.lt_iff_toInt_lt] at g h
  have e1 : (10 : Int32).toInt = 10 := by decide
  have e2 : (16 : Int32).toInt = 16 := by decide
  rw [e1] at g
  rw [e2] at h
  obtain ⟨j, hj, rfl⟩ := vp_in_of (x := x) (n := 16) (vp_in_iff.mpr ⟨by omega, by omega⟩) (by decide)
  rw [nI_toInt (by omega)] at g
  exact ⟨j, by omega, by omega, rfl⟩
theorem rat_hi {x : Int32} (h : ¬ x < 16) : frB x 10 15 = false := by
  refine frB_2' (fun q => h ?_)
  rw [Int32.lt_iff_toInt_lt]
  rw [Int32.le_iff_toInt_le] at q
  have e1 : (15 : Int32).toInt = 15 := by decide
  have e2 : (16 : Int32).toInt = 16 := by decide
  omega
def sC (st : St) (k : Nat) (f : Nat → Int32) (n : Nat) : St := fun k' => cond (Nat.beq k' k) (va_cpy f (st k) 0 0 n) (st k')
theorem sC_at (st : St) (k : Nat) (f : Nat → Int32) (n k' i : Nat) : sC st k f n k' i = if k' = k ∧ i < n then f i else st k' i := by
  unfold sC
  by_cases h : k' = k
  · subst h
    rw [show Nat.beq k' k' = true from Nat.beq_refl k']
    show va_cpy f (st k') 0 0 n i = _
    unfold va_cpy
    by_cases h2 : i < n
    · rw [if_pos ⟨by omega, by omega⟩, if_pos ⟨rfl, h2⟩]
      congr 1
      omega
    · rw [if_neg (by omega), if_neg (fun q => h2 q.2)]
  · rw [if_neg (fun q => h q.1)]
    cases hb : Nat.beq k' k with
    | true => exact absurd (Nat.eq_of_beq_eq_true hb) h
    | false => rfl
def CpS (own : String) (idx : Nat) : Prop := Cond.methodLink own idx arraycopyName ∈ gT ∧ Cond.native arraycopyName ∈ gT ∧ Cond.static arraycopyName ∈ gT ∧ Cond.initialized "java/lang/System" ∈ gT
section GC
variable {p : Program} {l : Launch} {e : Env} {R : Room} {s : State} {m : MethodId} {args : Array Value} {below : List Frame} {meth : Method} {c : Code} {H : Heap} {locs : List Loc} {cells slots : Nat} {Q : State → Prop}
variable {cc : ByteArray} {nL : Nat} {own : String} {E : EE} {A : Nat → Prop} {w w' : va_W} {pc : Nat} {ls : Array Slot} {rest stk : List Value} {a : Nat}
theorem g_copy {idx n a0 : Nat} {f g : Nat → Int32} {nn : Int32} (X : Cx p s m args meth c cc nL own E A) (G : Gw E A s w H locs) (hc : CpS own idx) (hls : ls.size = nL) (q0 q1 : Nat) (he0 : w[q0]? = some (a0, .inl (E.2.1, n, .inl f))) (he1 : w[q1]? = some (a, .inl (E.2.1, n, .inl g))) (hn : nn = nI n) (hn2 : n < 2 ^ 31) (hframes : 1 ≤ R.frames) (hlocals : (rest.map fun v => v.category).sum + (nativeFrameWords "java/lang/System" "arraycopy" 5 + 11) ≤ R.locals) (hdg : decode cc pc = .ok (.invokestatic idx, 3))
    (kk : ∀ (H1 : Heap) (locs1 : List Loc), Gw E A s (w.set q1 (a, .inl (E.2.1, n, .inl (va_cpy f g 0 0 n)))) H1 locs1 → W p l e R s m args below meth c H1 locs1 cells slots Q (F0 m (pc + 3) ls rest)) : W p l e R s m args below meth c H locs cells slots Q (F0 m pc ls (.int nn :: .int 0 :: .ref a :: .int 0 :: .ref a0 :: rest)) := by
  obtain ⟨hx, hb, hml, hown, hts, hK, hA, hlocks⟩ := X
  subst hn
  have hz : (0 : Int32).toNatClampNeg = 0 := by decide
  refine va_copyi hx hb (hml.trans hls.symm) hown (hts _ hc.1) (hts _ hc.2.1) (hts _ hc.2.2.1) (hts _ hc.2.2.2) hK G.1 G.2.1 G.2.2 q0 q1 0 0 he0 he1 rfl rfl rfl (by decide) (by decide) (nI_pos hn2) (by rw [hz, nI_clamp hn2]; omega) (by rw [hz, nI_clamp hn2]; omega) (fun i _ => rfl) hframes hlocals hdg (fun H1 locs1 a1 a2 a3 => kk H1 locs1 ?_)
  rw [hz, nI_clamp hn2] at a1 a2
  exact ⟨a1, a2, a3⟩
theorem g_aald {n j x : Nat} {f : Nat → Option Nat} {i : Int32} (X : Cx p s m args meth c cc nL own E A) (G : Gw E A s w H locs) (q0 : Nat) (he : w[q0]? = some (a, .inl (E.2.2.2, n, .inr (.inr (.inr (.inr f)))))) (hi : i = nI j) (hj : j < n) (hn : n < 2 ^ 31) (hf : f j = some x) (hdg : decode cc pc = .ok (.aaload, 1))
    (kk : W p l e R s m args below meth c H locs cells slots Q (F0 m (pc + 1) ls (.ref x :: rest))) : W p l e R s m args below meth c H locs cells slots Q (F0 m pc ls (.int i :: .ref a :: rest)) := by
  obtain ⟨hx, hb, hml, hown, hts, hK, hA, hlocks⟩ := X
  subst hi
  refine va_aldq hx hb hK G.1 q0 2 he rfl (vp_in_nI hj hn) hdg ?_
  rw [nI_clamp (Nat.lt_trans hj hn), hf]
  exact kk
theorem va_P_perm {D : va_G} {cl : List vw_C} {w1 w2 : va_W} (h : List.Perm w1 w2) (hP : va_P D cl w1 H) : va_P D cl w2 H := by
  intro k q hk
  have hm := h.mem_iff.mpr (List.mem_of_getElem? hk)
  obtain ⟨i, hi⟩ := List.getElem?_of_mem hm
  exact hP i q hi
theorem va_D_perm {w1 w2 : va_W} (h : List.Perm w1 w2) (hD : va_D A w1) : va_D A w2 := by
  have hp : w1.Pairwise (fun x y => x.1 ≠ y.1) := by
    rw [List.pairwise_iff_getElem]
    intro i j hi hj hij q
    have := hD.1 i j _ _ (List.getElem?_eq_getElem hi) (List.getElem?_eq_getElem hj) q
    omega
  have hp2 : w2.Pairwise (fun x y => x.1 ≠ y.1) := (h.pairwise_iff (fun {x y} q => Ne.symm q)).mp hp
  rw [List.pairwise_iff_getElem] at hp2
  refine ⟨fun i j x y hi hj q => ?_, fun k q hk => ?_⟩
  · obtain ⟨hi1, hi2⟩ := List.getElem?_eq_some_iff.mp hi
    obtain ⟨hj1, hj2⟩ := List.getElem?_eq_some_iff.mp hj
    rcases Nat.lt_trichotomy i j with z | z | z
    · exact absurd (by rw [hi2, hj2]; exact q) (hp2 i j hi1 hj1 z)
    · exact z
    · exact absurd (by rw [hi2, hj2]; exact q.symm) (hp2 j i hj1 hi1 z)
  · have hm := h.mem_iff.mpr (List.mem_of_getElem? hk)
    obtain ⟨i, hi⟩ := List.getElem?_of_mem hm
    exact hD.2 i q hi
theorem Gw_perm {w1 w2 : va_W} (h : List.Perm w1 w2) (G : Gw E A s w1 H locs) : Gw E A s w2 H locs := ⟨va_P_perm h G.1, va_D_perm h G.2.1, G.2.2⟩
end GC
/-! the whole object: its present box, its own object, the two images -/
abbrev wT (E : EE) (a b0 b1 : Nat → Nat) (h0 g0 k0 : Nat) (fo : Nat → Option Nat) (i0 i1 : St) (kp : Nat → Int32) (w : va_W) : va_W :=
  (h0, .inr (3, [.ref (a 0), .ref g0, .ref k0])) :: (g0, .inl (E.2.2.2, 2, .inr (.inr (.inr (.inr fo))))) :: (k0, .inl (E.2.2.1, 2, .inl kp)) :: wB E b0 i0 (wB E b1 i1 w)
abbrev mX (E : EE) (a : Nat → Nat) (h0 g0 k0 : Nat) (fo : Nat → Option Nat) (kp : Nat → Int32) : va_W :=
  [(h0, .inr (3, [.ref (a 0), .ref g0, .ref k0])), (g0, .inl (E.2.2.2, 2, .inr (.inr (.inr (.inr fo))))), (k0, .inl (E.2.2.1, 2, .inl kp))]
abbrev lB (E : EE) (a : Nat → Nat) (st : St) : va_W := wB E a st []
theorem px_1 (E : EE) (a b0 b1 : Nat → Nat) (h0 g0 k0 : Nat) (fo : Nat → Option Nat) (st i0 i1 : St) (kp : Nat → Int32) (w : va_W) : List.Perm (wB E a st (wT E a b0 b1 h0 g0 k0 fo i0 i1 kp w)) (wB E a st (wB E b0 i0 (mX E a h0 g0 k0 fo kp ++ wB E b1 i1 w))) :=
  List.Perm.append_left (lB E a st) (List.perm_append_comm_assoc (mX E a h0 g0 k0 fo kp) (lB E b0 i0) (wB E b1 i1 w))
theorem px_2 (E : EE) (a b0 b1 : Nat → Nat) (h0 g0 k0 : Nat) (fo : Nat → Option Nat) (st i0 i1 : St) (kp : Nat → Int32) (w : va_W) : List.Perm (wB E a st (wT E a b0 b1 h0 g0 k0 fo i0 i1 kp w)) (wB E a st (wB E b1 i1 (mX E a h0 g0 k0 fo kp ++ wB E b0 i0 w))) :=
  List.Perm.append_left (lB E a st) ((List.Perm.append_left (mX E a h0 g0 k0 fo kp) (List.perm_append_comm_assoc (lB E b0 i0) (lB E b1 i1) w)).trans (List.perm_append_comm_assoc (mX E a h0 g0 k0 fo kp) (lB E b1 i1) (wB E b0 i0 w)))
theorem px_3 (E : EE) (a b : Nat → Nat) (st i0 : St) (w : va_W) : List.Perm (wB E a st (wB E b i0 w)) (wB E b i0 (wB E a st w)) := List.perm_append_comm_assoc (lB E a st) (lB E b i0) w
def cpB (st st2 : St) : St := sC (sC (sC (sC (sC (sC st 1 (st2 1) 16) 2 (st2 2) 16) 3 (st2 3) 16) 4 (st2 4) 16) 5 (st2 5) 16) 6 (st2 6) 80
def cpP (st st2 : St) : St := sC (sC (sC (sC st 7 (st2 7) 32) 8 (st2 8) 32) 9 (st2 9) 6) 10 (st2 10) 6
def cpA (st st2 : St) : St := sU (cpP (cpB (sC st 0 (st2 0) 6) st2) st2) 11 0 (st2 11 0)
/-! what the class's calls answer, and how its box is then -/
def xOut (st : St) (h pt r rp f : Int32) : Int32 × St := if rg h 4 = false then (-1, st) else if rg pt 32 = false ∨ rgR r rp = false ∨ rg f 3 = false then (-2, st) else (oN (goOutO st (cl h) (cl pt) (cl r) (cl rp)), goOutC st (cl h) (cl pt) (cl r) (cl rp) (cl f))
def xIn (st : St) (r rp o f : Int32) : Int32 × St := if rgR r rp = false then (-2, st) else if rg o 16 = false then (-1, st) else if rg f 3 = false then (-2, st) else (comeInR st (cl r) (cl rp) (cl o) (cl f), comeInC st (cl r) (cl rp) (cl o) (cl f))
def xTurn (st : St) (h pt o f : Int32) : Int32 × St := if rg h 4 = false then (-1, st) else if rg pt 32 = false then (-2, st) else if rg o 16 = false then (-1, st) else if rg f 3 = false then (-2, st) else match goOutO st (cl h) (cl pt) 4 (cl o) with
  | none => (-5, goOutC st (cl h) (cl pt) 4 (cl o) (cl f))
  | some j => (comeInR (goOutC st (cl h) (cl pt) 4 (cl o) (cl f)) 4 j (cl o) (cl f), comeInC (goOutC st (cl h) (cl pt) 4 (cl o) (cl f)) 4 j (cl o) (cl f))
def xPart (st : St) (r nm pt rp o : Int32) : Int32 × St := if rg r 4 = false ∨ rg nm 8 = false ∨ rg pt 8 = false then (-2, st) else if cl pt = 0 then (if rgR r rp = false then (-2, st) else if rg o 16 = false then (-1, st) else tfpC st (cl r * 8 + cl nm) (cl r) (cl rp) (cl o)) else topC st (cl r * 8 + cl nm) (cl pt)
def xTick (st : St) (n : Int32) : Int32 × St := if frB n 1 100 = false then (-2, st) else (nI (passC st n).2, (passC st n).1)
def xDrop (st : St) (h : Int32) : Int32 × St := if rg h 4 = false then (-1, st) else (nI (iF (dropS h) 16 0 (st, 0)).2, (iF (dropS h) 16 0 (st, 0)).1)
def xOf (st : St) (o what : Int32) : Int32 := if rg o 16 = false then -1 else if rg what 6 = false then -2 else if lentC st (cl o) then tellB st (cl o) what else -6
def xSent (st : St) (o r rp : Int32) : Int32 := if rg o 16 = false then -1 else if rgR r rp = false then -2 else if lentC st (cl o) then bI (isSentC st (cl o) (cl r) (cl rp)) else -6
def xFind (st : St) (h pt r rp : Int32) : Int32 := if rg h 4 = false then -1 else if rg pt 32 = false ∨ rgR r rp = false then -2 else oI (seekO st (nI (cl h * 32 + cl pt)) r rp)
def xNext (st : St) (h pt : Int32) : Int32 := if rg h 4 = false then -1 else if rg pt 32 = false then -2 else oI (chooseC st h (cl pt))
def xWhy (st : St) (r rp o : Int32) : Int32 := if rgR r rp = false then -2 else if rg o 16 = false then -1 else nI (reasonC st (cl r) (cl rp) (cl o))
def xBlock (st : St) (b : Int32) : Int32 := if rg b 4 = false then -1 else holderC st (cl b)
def xHost (st : St) (h what : Int32) : Int32 := if rg h 4 = false then -1 else if rg what 4 = false then -2 else tellH st h what
def ruleAtC (st : St) (what : Int32) : Int32 := if frB what 10 15 then st 0 (cl what - 10) else -2
def xCount (st : St) (kp : Nat → Int32) (what : Int32) : Int32 := if what = 0 then nI (countAllC st) else if what = 1 then st 11 0 else if what = 2 then bcC (blocksC st (-6)) else if what = 3 then nI (countHeldC st) else if what = 4 then nI (countKnownC st) else if what = 5 then nI ((if kp 0 = 0 then 0 else 1) + (if kp 1 = 0 then 0 else 2)) else ruleAtC st what
theorem rg_08 : rg (nI 0) 8 = true := by decide +kernel
theorem cl_00 : cl (nI 0) = 0 := cl_nI (by decide)
