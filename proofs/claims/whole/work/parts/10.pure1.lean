theorem nI_inc (i : Nat) : nI i + Int32.ofInt 1 = nI (i + 1) := nI_1 i
def ush (x y : Int32) : Int32 := (x.toUInt32 >>> (y.toUInt32 &&& Int32.toUInt32 31)).toInt32
section GO
variable {p : Program} {l : Launch} {e : Env} {R : Room} {s : State} {m : MethodId} {args : Array Value} {below : List Frame} {meth : Method} {c : Code} {H : Heap} {locs : List Loc} {cells slots : Nat} {Q : State → Prop}
variable {cc : ByteArray} {pc : Nat} {ls : Array Slot} {rest : List Value}
theorem o_split {o : Option Nat} (k0 : o = none → W p l e R s m args below meth c H locs cells slots Q (F0 m pc ls (.int (-6) :: rest))) (k1 : ∀ j : Nat, o = some j → W p l e R s m args below meth c H locs cells slots Q (F0 m pc ls (.int (nI j) :: rest))) : W p l e R s m args below meth c H locs cells slots Q (F0 m pc ls (.int (oI o) :: rest)) := by
  cases o with
  | none => exact k0 rfl
  | some j => exact k1 j rfl
theorem n_if_eq {x : Int32} (a : Nat) (hx' : x = nI a) (ha : a < 2 ^ 31) {off : Int} {tgt : Nat} (hexec : p.tables.exec = Jvm.exec) (hb : c.code = cc) (hdg : decode cc pc = .ok (.ifCond .eq off, 3)) (ht : (pc : Int) + off = (tgt : Int)) (kt : a = 0 → W p l e R s m args below meth c H locs cells slots Q (F0 m tgt ls rest)) (kf : ¬ a = 0 → W p l e R s m args below meth c H locs cells slots Q (F0 m (pc + 3) ls rest)) : W p l e R s m args below meth c H locs cells slots Q (F0 m pc ls (.int x :: rest)) := by
  subst hx'
  exact lv_if_eq hexec hb hdg ht (fun h => kt (by rcases Nat.eq_zero_or_pos a with q | q; exact q; exact absurd h (nI_ne0 q ha))) (fun h => kf (fun q => h (by rw [q]; exact nI_0)))
theorem n_if_ne {x : Int32} (a : Nat) (hx' : x = nI a) (ha : a < 2 ^ 31) {off : Int} {tgt : Nat} (hexec : p.tables.exec = Jvm.exec) (hb : c.code = cc) (hdg : decode cc pc = .ok (.ifCond .ne off, 3)) (ht : (pc : Int) + off = (tgt : Int)) (kt : ¬ a = 0 → W p l e R s m args below meth c H locs cells slots Q (F0 m tgt ls rest)) (kf : a = 0 → W p l e R s m args below meth c H locs cells slots Q (F0 m (pc + 3) ls rest)) : W p l e R s m args below meth c H locs cells slots Q (F0 m pc ls (.int x :: rest)) := by
  subst hx'
  exact lv_if_ne hexec hb hdg ht (fun h => kt (fun q => h (by rw [q]; exact nI_0))) (fun h => kf (by rcases Nat.eq_zero_or_pos a with q | q; exact q; exact absurd h (nI_ne0 q ha)))
theorem n_if_gt {x : Int32} (a : Nat) (hx' : x = nI a) (ha : a < 2 ^ 31) {off : Int} {tgt : Nat} (hexec : p.tables.exec = Jvm.exec) (hb : c.code = cc) (hdg : decode cc pc = .ok (.ifCond .gt off, 3)) (ht : (pc : Int) + off = (tgt : Int)) (kt : 0 < a → W p l e R s m args below meth c H locs cells slots Q (F0 m tgt ls rest)) (kf : ¬ 0 < a → W p l e R s m args below meth c H locs cells slots Q (F0 m (pc + 3) ls rest)) : W p l e R s m args below meth c H locs cells slots Q (F0 m pc ls (.int x :: rest)) := by
  subst hx'
  exact lv_if_gt hexec hb hdg ht (fun h => kt ((nI_ltI (by decide) ha).mp (by rw [nI_0]; exact h))) (fun h => kf (fun q => h (by rw [← nI_0]; exact (nI_ltI (by decide) ha).mpr q)))
theorem n_if_le {x : Int32} (a : Nat) (hx' : x = nI a) (ha : a < 2 ^ 31) {off : Int} {tgt : Nat} (hexec : p.tables.exec = Jvm.exec) (hb : c.code = cc) (hdg : decode cc pc = .ok (.ifCond .le off, 3)) (ht : (pc : Int) + off = (tgt : Int)) (kt : a ≤ 0 → W p l e R s m args below meth c H locs cells slots Q (F0 m tgt ls rest)) (kf : ¬ a ≤ 0 → W p l e R s m args below meth c H locs cells slots Q (F0 m (pc + 3) ls rest)) : W p l e R s m args below meth c H locs cells slots Q (F0 m pc ls (.int x :: rest)) := by
  subst hx'
  exact lv_if_le hexec hb hdg ht (fun h => kt ((nI_leI ha (by decide)).mp (by rw [nI_0]; exact h))) (fun h => kf (fun q => h (by rw [← nI_0]; exact (nI_leI ha (by decide)).mpr q)))
end GO
theorem i_eq {x : Int32} {k : Int32} {a : Int} (hk : k.toInt = a) (h : ¬ x = k) : ¬ x.toInt = a := fun q => h (Int32.toInt_inj.mp (q.trans hk.symm))
theorem tb_out2 {x : Int32} (h0 : ¬ x = 0) (h1 : ¬ x = 1) (h2 : ¬ x = 2) : x.toInt < 0 ∨ 2 < x.toInt := by
  have a0 := i_eq (a := 0) (by decide) h0; have a1 := i_eq (a := 1) (by decide) h1; have a2 := i_eq (a := 2) (by decide) h2
  omega
theorem tb_out3 {x : Int32} (h0 : ¬ x = 0) (h1 : ¬ x = 1) (h2 : ¬ x = 2) (h3 : ¬ x = 3) : x.toInt < 0 ∨ 3 < x.toInt := by
  have a0 := i_eq (a := 0) (by decide) h0; have a1 := i_eq (a := 1) (by decide) h1; have a2 := i_eq (a := 2) (by decide) h2; have a3 := i_eq (a := 3) (by decide) h3
  omega
theorem tb_out4 {x : Int32} (h0 : ¬ x = 0) (h1 : ¬ x = 1) (h2 : ¬ x = 2) (h3 : ¬ x = 3) (h4 : ¬ x = 4) : x.toInt < 0 ∨ 4 < x.toInt := by
  have a0 := i_eq (a := 0) (by decide) h0; have a1 := i_eq (a := 1) (by decide) h1; have a2 := i_eq (a := 2) (by decide) h2; have a3 := i_eq (a := 3) (by decide) h3; have a4 := i_eq (a := 4) (by decide) h4
  omega
theorem tb_out5 {x : Int32} (h0 : ¬ x = 0) (h1 : ¬ x = 1) (h2 : ¬ x = 2) (h3 : ¬ x = 3) (h4 : ¬ x = 4) (h5 : ¬ x = 5) : x.toInt < 0 ∨ 5 < x.toInt := by
  have a0 := i_eq (a := 0) (by decide) h0; have a1 := i_eq (a := 1) (by decide) h1; have a2 := i_eq (a := 2) (by decide) h2; have a3 := i_eq (a := 3) (by decide) h3; have a4 := i_eq (a := 4) (by decide) h4; have a5 := i_eq (a := 5) (by decide) h5
  omega
/-- the first of n numbers from i on -/
def fF (p : Nat → Bool) : Nat → Nat → Option Nat
  | 0, _ => none
  | n + 1, i => if p i then some i else fF p n (i + 1)
/-- the last of them -/
def lF (p : Nat → Bool) : Nat → Nat → Option Nat → Option Nat
  | 0, _, o => o
  | n + 1, i, o => lF p n (i + 1) (if p i then some i else o)
/-- how many -/
def cF (p : Nat → Bool) : Nat → Nat → Nat
  | 0, _ => 0
  | n + 1, i => (if p i then 1 else 0) + cF p n (i + 1)
/-- a step for each -/
def iF {σ : Type} (f : Nat → σ → σ) : Nat → Nat → σ → σ
  | 0, _, x => x
  | n + 1, i, x => iF f n (i + 1) (f i x)
theorem fF_lt {p : Nat → Bool} : ∀ {n i j : Nat}, fF p n i = some j → i ≤ j ∧ j < i + n ∧ p j = true
  | 0, i, j, h => by simp [fF] at h
  | n + 1, i, j, h => by
    unfold fF at h
    by_cases q : p i = true
    · simp [q] at h
      subst h
      exact ⟨Nat.le_refl _, by omega, q⟩
    · simp [q] at h
      have := fF_lt h
      exact ⟨by omega, by omega, this.2.2⟩
theorem cF_le (p : Nat → Bool) : ∀ (n i : Nat), cF p n i ≤ n
  | 0, _ => Nat.le_refl _
  | n + 1, i => by
    have := cF_le p n (i + 1)
    unfold cF
    split <;> omega
/-! the box's own numbers -/
def lentC (st : St) (o : Nat) : Bool := !decide (st 1 o = -6)
def hostC (st : St) (o : Nat) : Int32 := if lentC st o then st 1 o / 32 else -6
def isForC (st : St) (o : Nat) (r rp : Int32) : Bool := (decide (st 4 o = -6) || decide (st 4 o = r)) && (decide (st 5 o = -6) || decide (st 5 o = rp))
def seekP (st : St) (ip r rp : Int32) (o : Nat) : Bool := decide (st 1 o = ip) && isForC st o r rp
def seekO (st : St) (ip r rp : Int32) : Option Nat := fF (seekP st ip r rp) 16 0
theorem seekO_lt {st : St} {ip r rp : Int32} {j : Nat} (h : seekO st ip r rp = some j) : j < 16 := by
  have := fF_lt h
  omega
def zero5 (o : Nat) : Nat → St → St := fun i st => sU st 6 (o * 5 + i) 0
def lendC (st : St) (o : Nat) (ip r rp : Int32) : St := iF (zero5 o) 5 0 (sU (sU (sU (sU st 1 o ip) 2 o 0) 4 o r) 5 o rp)
def markC (st : St) (o r rp : Nat) : St := sU st 6 (o * 5 + r) (st 6 (o * 5 + r) ||| 1 <<< (nI rp &&& 31))
def isSentC (st : St) (o r rp : Nat) : Bool := decide (ush (st 6 (o * 5 + r)) (nI rp) &&& 1 = 1)
def isAnyC (st : St) (o r : Nat) : Bool := !decide (st 6 (o * 5 + r) = 0)
def bcC (x : Int32) : Int32 :=
  let x1 := x - (ush x 1 &&& 1431655765)
  let x2 := (x1 &&& 858993459) + (ush x1 2 &&& 858993459)
  let x3 := (x2 + ush x2 4) &&& 252645135
  let x4 := x3 + ush x3 8
  let x5 := x4 + ush x4 16
  x5 &&& 63
def sumF (f : Nat → Int32) : Nat → Nat → Int32 → Int32
  | 0, _, x => x
  | n + 1, i, x => sumF f n (i + 1) (x + f i)
def countSentC (st : St) (o : Nat) : Int32 := sumF (fun r => bcC (st 6 (o * 5 + r))) 5 0 0
def countAllC (st : St) : Nat := cF (lentC st) 16 0
def countHostC (st : St) (h : Int32) : Nat := cF (fun o => decide (hostC st o = h)) 16 0
def holderC (st : St) (b : Nat) : Int32 := match fF (fun i => !decide (hostC st (b * 4 + i) = -6)) 4 0 with
  | none => -6
  | some i => hostC st (b * 4 + i)
def orF (p : Nat → Bool) : Nat → Nat → Int32 → Int32
  | 0, _, x => x
  | n + 1, i, x => orF p n (i + 1) (if p i then x ||| 1 <<< (nI i &&& 31) else x)
def blocksC (st : St) (h : Int32) : Int32 := orF (fun b => decide (holderC st b = h)) 4 0 0
/-! packets -/
def knownC (st : St) (k : Nat) : Bool := !decide (st 7 k = -6)
def forgetAllC (o : Int32) (k : Nat) (st : St) : St := if st 7 k = o then sU st 7 k (-6) else st
def placeP (st : St) (v : Int32) (i : Nat) : Bool := decide (st 9 i = v)
def placeO (st : St) (v : Int32) : Option Nat := fF (placeP st v) 6 0
theorem placeO_lt {st : St} {v : Int32} {j : Nat} (h : placeO st v = some j) : j < 6 := by
  have := fF_lt h
  omega
def relP (st : St) (k : Int32) (i : Nat) : Bool := !decide (st 9 i = -6) && decide (st 9 i / 8 = k)
def relS (k : Int32) (i : Nat) (x : St × Nat) : St × Nat := if relP x.1 k i then (sU x.1 9 i (-6), x.2 + 1) else x
def holdC (st : St) (v t : Int32) : Int32 × St := match placeO st v with
  | some _ => (0, st)
  | none => match placeO st (-6) with
    | none => (-4, st)
    | some j => (0, sU (sU st 9 j v) 10 j t)
def oldK (t : Int32) (k : Nat) (st : St) : St := if knownC st k && !decide (t - st 8 k < 5) then sU st 7 k (-6) else st
def oldH (t : Int32) (i : Nat) (st : St) : St := if !decide (st 9 i = -6) && !decide (t - st 10 i < 5) then sU st 9 i (-6) else st
def endOldC (st : St) (t : Int32) : St := iF (oldH t) 6 0 (iF (oldK t) 32 0 st)
def countKnownC (st : St) : Nat := cF (knownC st) 32 0
def countHeldC (st : St) : Nat := cF (fun i => !decide (st 9 i = -6)) 6 0
