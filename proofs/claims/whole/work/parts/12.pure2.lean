def oN (o : Option Nat) : Int32 := match o with
  | none => -5
  | some j => nI j
theorem nI_m5 {j : Nat} (h : j < 2 ^ 31) : ¬ nI j = -5 := by
  intro q
  have := nI_pos h
  rw [q] at this
  exact this (by decide)
theorem n_split {p : Program} {l : Launch} {e : Env} {R : Room} {s : State} {m : MethodId} {args : Array Value} {below : List Frame} {meth : Method} {c : Code} {H : Heap} {locs : List Loc} {cells slots : Nat} {Q : State → Prop} {pc : Nat} {ls : Array Slot} {rest : List Value} {o : Option Nat} (k0 : o = none → W p l e R s m args below meth c H locs cells slots Q (F0 m pc ls (.int (-5) :: rest))) (k1 : ∀ j : Nat, o = some j → W p l e R s m args below meth c H locs cells slots Q (F0 m pc ls (.int (nI j) :: rest))) : W p l e R s m args below meth c H locs cells slots Q (F0 m pc ls (.int (oN o) :: rest)) := by
  cases o with
  | none => exact k0 rfl
  | some j => exact k1 j rfl
theorem q_ldc265 : Cond.constant RJ6 265 1431655765 ∈ gT := gT_in 341 (by decide +kernel) (by decide +kernel)
theorem q_ldc266 : Cond.constant RJ6 266 858993459 ∈ gT := gT_in 342 (by decide +kernel) (by decide +kernel)
theorem q_ldc267 : Cond.constant RJ6 267 252645135 ∈ gT := gT_in 343 (by decide +kernel) (by decide +kernel)
def endB (o : Nat) (st : St) : St := iF (forgetAllC (nI o)) 32 0 (sU st 1 o (-6))
def endAllC (st : St) : St := iF endB 16 0 st
def lifeC (st : St) (o : Nat) : Int32 := if st 2 o = 0 then st 0 3 else if st 2 o = 1 then st 0 4 else st 0 5
def leftC (st : St) (o : Nat) : Int32 := st 3 o + lifeC st o - st 11 0
def lapS (o : Nat) (x : St × Nat) : St × Nat := if lentC x.1 o && !decide (0 < leftC x.1 o) then (endB o x.1, x.2 + 1) else x
def endLapC (st : St) : St × Nat := iF lapS 16 0 (st, 0)
def setRuleC (st : St) (what : Nat) (v : Int32) : St := (endLapC (if what = 0 ∧ ¬ v = st 0 what then endAllC (sU st 0 what v) else sU st 0 what v)).1
def fitC (st : St) (o port : Nat) : Bool := !lentC st o && (decide (st 0 2 = 0) || decide (o % 2 = port % 2))
def lfhP (st : St) (h : Int32) (port : Nat) (o : Nat) : Bool := decide (holderC st (o / 4) = h) && fitC st o port
def lfhF (st : St) (h : Int32) (port : Nat) : Option Nat := fF (lfhP st h port) 16 0
def chooseC (st : St) (h : Int32) (port : Nat) : Option Nat :=
  if fitC st (port % 16) port && decide (holderC st (port % 16 / 4) = h) then some (port % 16) else match lfhF st h port with
    | some o => some o
    | none => if holderC st (port % 16 / 4) = -6 then some (port % 16) else lfhF st (-6) port
theorem lfhF_lt {st : St} {h : Int32} {port j : Nat} (q : lfhF st h port = some j) : j < 16 := by
  have := fF_lt q
  omega
theorem chooseC_lt {st : St} {h : Int32} {port j : Nat} (q : chooseC st h port = some j) : j < 16 := by
  unfold chooseC at q
  split at q
  · simp at q; omega
  · split at q
    · rename_i o h1
      have := lfhF_lt h1
      simp at q
      omega
    · split at q
      · simp at q; omega
      · have := lfhF_lt q
        omega
def makeC (st : St) (host port r rp : Nat) : St := match chooseC st (nI host) port with
  | none => st
  | some o => lendC st o (nI (host * 32 + port)) (if st 0 0 < 1 then -6 else nI r) (if st 0 0 < 2 then -6 else nI rp)
def useC (st : St) (j : Nat) (t : Int32) : St := sU st 3 j t
def flagO (st : St) (j f : Nat) : St := if f = 2 then sU st 2 j 2 else if f = 1 then (if st 2 j = 2 then sU st 2 j 0 else st) else st
def goFin (st : St) (j r rp f : Nat) : St := flagO (sU (markC st j r rp) 3 j (markC st j r rp 11 0)) j f
def goOutO (st : St) (host port r rp : Nat) : Option Nat := match seekO st (nI (host * 32 + port)) (nI r) (nI rp) with
  | some j => some j
  | none => chooseC st (nI host) port
def goOutC (st : St) (host port r rp f : Nat) : St := match seekO st (nI (host * 32 + port)) (nI r) (nI rp) with
  | some j => goFin st j r rp f
  | none => match chooseC st (nI host) port with
    | none => makeC st host port r rp
    | some j => goFin (makeC st host port r rp) j r rp f
theorem goOutO_lt {st : St} {host port r rp j : Nat} (h : goOutO st host port r rp = some j) : j < 16 := by
  unfold goOutO at h
  split at h
  · rename_i j2 h2
    have := seekO_lt h2
    simp at h; omega
  · exact chooseC_lt h
def reasonC (st : St) (r rp o : Nat) : Nat := if lentC st o = false then 1 else if st 0 1 = 1 ∧ isAnyC st o r = false then 2 else if st 0 1 = 2 ∧ isSentC st o r rp = false then 2 else 0
theorem reasonC_le (st : St) (r rp o : Nat) : reasonC st r rp o ≤ 2 := by
  unfold reasonC
  split
  · omega
  · split
    · omega
    · split <;> omega
def flagI (st : St) (o f : Nat) : St := if f = 2 then sU st 2 o 2 else if st 2 o = 0 then sU st 2 o 1 else st
def comeInC (st : St) (r rp o f : Nat) : St := if reasonC st r rp o = 0 then flagI (sU st 3 o (st 11 0)) o f else st
def comeInR (st : St) (r rp o f : Nat) : Int32 := if reasonC st r rp o = 0 then comeInC st r rp o f 1 o else -6
def tfpC (st : St) (k r rp o : Nat) : Int32 × St :=
  let x := iF (relS (nI k)) 6 0 (comeInC st r rp o 0, 0)
  if comeInR st r rp o 0 = -6 then (-6, sU x.1 7 k (-6)) else (nI (1 + x.2), sU (sU x.1 7 k (nI o)) 8 k (x.1 11 0))
def topC (st : St) (k pt : Nat) : Int32 × St := if knownC st k then (1, st) else holdC st (nI (k * 8 + pt)) (st 11 0)
def passC (st : St) (n : Int32) : St × Nat := endLapC (endOldC (sU st 11 0 (st 11 0 + n)) (sU st 11 0 (st 11 0 + n) 11 0))
def tellB (st : St) (o : Nat) (what : Int32) : Int32 := if what = 0 then st 1 o else if what = 1 then st 2 o else if what = 2 then leftC st o else if what = 3 then countSentC st o else if what = 4 then st 4 o else st 5 o
def countFitC (st : St) (h : Int32) (port : Nat) : Nat := cF (fun o => (decide (holderC st (o / 4) = h) || decide (holderC st (o / 4) = -6)) && fitC st o port) 16 0
def tellH (st : St) (h what : Int32) : Int32 := if what = 0 then nI (countHostC st h) else if what = 1 then blocksC st h else if what = 2 then nI (countFitC st h 0) else nI (countFitC st h 1)
def ltF (st : St) : Nat → Nat → Int32 → Int32
  | 0, _, x => x
  | n + 1, i, x => ltF st n (i + 1) (if lentC st i && (decide (x = -6) || !decide (x ≤ leftC st i)) then leftC st i else x)
def dropS (h : Int32) (o : Nat) (x : St × Nat) : St × Nat := if hostC x.1 o = h then (endB o x.1, x.2 + 1) else x
