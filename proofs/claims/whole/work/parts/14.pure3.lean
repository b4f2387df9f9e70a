def cl (x : Int32) : Nat := x.toNatClampNeg
theorem cl_nI {n : Nat} (h : n < 2 ^ 31) : cl (nI n) = n := nI_clamp h
/-- an int is one of the first n numbers -/
def rg (x : Int32) (n : Nat) : Bool := decide (0 ≤ x.toInt) && decide (x.toInt < (n : Int))
def frB (x lo hi : Int32) : Bool := decide (lo ≤ x) && decide (x ≤ hi)
def rgR (r p : Int32) : Bool := rg r 5 && rg p (if r = 4 then 16 else 32)
theorem rg_nat {x : Int32} {n : Nat} (hn : n < 2 ^ 31) (h : rg x n = true) : ∃ j, j < n ∧ x = nI j := by
  simp only [rg, Bool.and_eq_true, decide_eq_true_eq] at h
  exact vp_in_of (vp_in_iff.mpr h) hn
theorem frB_rg (x : Int32) {k : Nat} (hk : k + 1 < 2 ^ 31) {hi : Int32} (e : hi = nI k) : frB x 0 hi = rg x (k + 1) := by
  subst e
  unfold frB rg
  rw [Bool.eq_iff_iff]
  simp only [Bool.and_eq_true, decide_eq_true_eq, Int32.le_iff_toInt_le, Int32.toInt_zero, nI_toInt (show k < 2 ^ 31 by omega)]
  constructor
  · intro ⟨h1, h2⟩; exact ⟨h1, by omega⟩
  · intro ⟨h1, h2⟩; exact ⟨h1, by omega⟩
theorem frB_nat {x lo hi : Int32} (a b : Nat) (ha : a < 2 ^ 31) (hb : b < 2 ^ 31 - 1) (ea : lo = nI a) (eb : hi = nI b) (h : frB x lo hi = true) : ∃ j, a ≤ j ∧ j ≤ b ∧ x = nI j := by
  subst ea; subst eb
  simp only [frB, Bool.and_eq_true, decide_eq_true_eq] at h
  obtain ⟨h1, h2⟩ := h
  rw [Int32.le_iff_toInt_le, nI_toInt ha] at h1
  rw [Int32.le_iff_toInt_le, nI_toInt (by omega)] at h2
  obtain ⟨j, hj, rfl⟩ := vp_in_of (x := x) (n := b + 1) (vp_in_iff.mpr ⟨by omega, by omega⟩) (by omega)
  rw [nI_toInt (by omega)] at h1 h2
  exact ⟨j, by omega, by omega, rfl⟩
theorem rgR_nat {r p : Int32} (h : rgR r p = true) : ∃ j k, j < 5 ∧ k < 32 ∧ (j = 4 → k < 16) ∧ r = nI j ∧ p = nI k := by
  simp only [rgR, Bool.and_eq_true] at h
  obtain ⟨j, hj, rfl⟩ := rg_nat (by decide) h.1
  have h2 := h.2
  by_cases h4 : nI j = 4
  · rw [if_pos h4] at h2
    obtain ⟨k, hk, rfl⟩ := rg_nat (by decide) h2
    exact ⟨j, k, hj, by omega, fun _ => hk, rfl, rfl⟩
  · rw [if_neg h4] at h2
    obtain ⟨k, hk, rfl⟩ := rg_nat (by decide) h2
    refine ⟨j, k, hj, hk, fun q => ?_, rfl, rfl⟩
    subst q
    exact absurd rfl h4
theorem frB_1 {x lo hi : Int32} (h : x < lo) : frB x lo hi = false := by
  unfold frB
  rw [decide_eq_false (fun q => by rw [Int32.le_iff_toInt_le] at q; rw [Int32.lt_iff_toInt_lt] at h; omega)]
  rfl
theorem frB_2 {x lo hi : Int32} (h : hi < x) : frB x lo hi = false := by
  unfold frB
  rw [show decide (x ≤ hi) = false from decide_eq_false (fun q => by rw [Int32.le_iff_toInt_le] at q; rw [Int32.lt_iff_toInt_lt] at h; omega), Bool.and_false]
theorem frB_3 {x lo hi : Int32} (h : ¬ x < lo) (g : ¬ hi < x) : frB x lo hi = true := by
  unfold frB
  rw [Int32.lt_iff_toInt_lt] at h g
  rw [decide_eq_true (show lo ≤ x by rw [Int32.le_iff_toInt_le]; omega), decide_eq_true (show x ≤ hi by rw [Int32.le_iff_toInt_le]; omega)]
  rfl
theorem rgR_fr (r p : Int32) : rgR r p = (frB r 0 4 && frB p 0 (if r = 4 then 15 else 31)) := by
  unfold rgR
  rw [frB_rg r (k := 4) (hi := 4) (by decide) rfl]
  by_cases h : r = 4
  · rw [if_pos h, if_pos h, frB_rg p (k := 15) (hi := 15) (by decide) rfl]
  · rw [if_neg h, if_neg h, frB_rg p (k := 31) (hi := 31) (by decide) rfl]
theorem bind_no {x : Int32} (h : x = 0) (g : ¬ x < 2) : False := by
  subst h
  exact g (by decide)
section GZ
variable {p : Program} {l : Launch} {e : Env} {R : Room} {s : State} {m : MethodId} {args : Array Value} {below : List Frame} {meth : Method} {c : Code} {H : Heap} {locs : List Loc} {cells slots : Nat} {Q : State → Prop}
variable {cc : ByteArray} {nL : Nat} {own : String} {E : EE} {A : Nat → Prop} {w w' : va_W} {pc : Nat} {ls : Array Slot} {rest stk : List Value} {a : Nat}
theorem g_zast1 {n j : Nat} {f : Nat → Int32} {i : Int32} (X : Cx p s m args meth c cc nL own E A) (G : Gw E A s w H locs) (q0 : Nat) (he : w[q0]? = some (a, .inl (E.2.2.1, n, .inl f))) (hi : i = nI j) (hj : j < n) (hn : n < 2 ^ 31) (hdg : decode cc pc = .ok (.bastore, 1))
    (kk : ∀ (H1 : Heap) (locs1 : List Loc), Gw E A s (w.set q0 (a, .inl (E.2.2.1, n, .inl (upd f j 1)))) H1 locs1 → W p l e R s m args below meth c H1 locs1 cells slots Q (F0 m (pc + 1) ls rest)) : W p l e R s m args below meth c H locs cells slots Q (F0 m pc ls (.int 1 :: .int i :: .ref a :: rest)) := by
  obtain ⟨hx, hb, hml, hown, hts, hK, hA, hlocks⟩ := X
  subst hi
  refine va_zast hx hb hK G.1 G.2.1 G.2.2 q0 1 he rfl (vp_in_nI hj hn) hdg (fun H1 locs1 a1 a2 a3 => kk H1 locs1 ?_)
  rw [nI_clamp (Nat.lt_trans hj hn)] at a1 a2
  exact ⟨a1, a2, a3⟩
end GZ
theorem iF_ind {σ : Type} (P : σ → Prop) (f : Nat → σ → σ) : ∀ (n i : Nat) (x : σ), (∀ j y, i ≤ j → j < i + n → P y → P (f j y)) → P x → P (iF f n i x)
  | 0, _, _, _, h => h
  | n + 1, i, x, hs, h => iF_ind P f n (i + 1) (f i x) (fun j y h1 h2 h3 => hs j y (by omega) (by omega) h3) (hs i x (Nat.le_refl i) (by omega) h)
theorem iF_id {σ : Type} (f : Nat → σ → σ) (hf : ∀ i x, f i x = x) : ∀ (n i : Nat) (x : σ), iF f n i x = x
  | 0, _, _ => rfl
  | n + 1, i, x => by unfold iF; rw [hf]; exact iF_id f hf n (i + 1) x
/-! the reference's own numbers -/
def mLent (st : St) (o : Nat) : Bool := !decide (st 0 (7 + o) < 0)
def mEndK (o : Int32) (k : Nat) (st : St) : St := if !decide (st 0 (183 + k) ≤ st 0 6) && decide (st 0 (215 + k) = o) then sU st 0 (183 + k) 0 else st
def mEnd (o : Nat) (st : St) : St := iF (mEndK (nI o)) 32 0 (sU st 0 (7 + o) (-6))
def isOk (st : St) : Prop := ∀ o, o < 16 → ∃ z, z < 3 ∧ st 0 (71 + o) = nI z
theorem isOk_of {st st' : St} (h : ∀ o, o < 16 → st' 0 (71 + o) = st 0 (71 + o)) (hI : isOk st) : isOk st' := fun o ho => by
  obtain ⟨z, h1, h2⟩ := hI o ho
  exact ⟨z, h1, (h o ho).trans h2⟩
theorem isOk_sU {st : St} {i : Nat} {v : Int32} (hi : i < 71 ∨ 87 ≤ i) (hI : isOk st) : isOk (sU st 0 i v) := isOk_of (fun o ho => by
  rw [sU_at, if_neg]; omega) hI
theorem isOk_mEnd {st : St} {o : Nat} (ho : o < 16) (hI : isOk st) : isOk (mEnd o st) := by
  unfold mEnd
  refine iF_ind isOk _ 32 0 _ (fun j y _ hj hy => ?_) (isOk_sU (by omega) hI)
  unfold mEndK
  split
  · exact isOk_sU (by omega) hy
  · exact hy
def endOfM (st : St) (o : Nat) : Int32 := st 0 (87 + o) + st 0 (3 + cl (st 0 (71 + o)))
def mLap (o : Nat) (x : St × Nat) : St × Nat := if mLent x.1 o && !decide (x.1 0 6 < endOfM x.1 o) then (mEnd o x.1, x.2 + 1) else x
def lapseC (st : St) : St × Nat := iF mLap 16 0 (st, 0)
theorem isOk_lapse {st : St} (hI : isOk st) : isOk (lapseC st).1 := by
  unfold lapseC
  refine iF_ind (fun (x : St × Nat) => isOk x.1) mLap 16 0 (st, 0) (fun j y _ hj hy => ?_) hI
  have hm := isOk_mEnd (o := j) (st := y.1) (by omega) hy
  by_cases hc : (mLent y.1 j && !decide (y.1 0 6 < endOfM y.1 j)) = true
  · have e : mLap j y = (mEnd j y.1, y.2 + 1) := by unfold mLap; rw [if_pos hc]
    rw [e]
    simp only
    exact hm
  · have e : mLap j y = y := by unfold mLap; rw [if_neg hc]
    rw [e]
    exact hy
theorem lapseC_le (st : St) : (lapseC st).2 ≤ 16 := by
  have key : ∀ (n i : Nat) (x : St × Nat), (iF mLap n i x).2 ≤ x.2 + n := by
    intro n
    induction n with
    | zero => intro i x; exact Nat.le_refl _
    | succ n ih =>
      intro i x
      unfold iF
      have h := ih (i + 1) (mLap i x)
      have h2 : (mLap i x).2 ≤ x.2 + 1 := by
        unfold mLap
        split
        · exact Nat.le_refl _
        · omega
      omega
  have := key 16 0 (st, 0)
  simpa [lapseC] using this
def leastN (k : Nat) : Nat := if k < 3 then 0 else 1
def mostN (k : Nat) : Nat := if k < 2 then 2 else if k = 2 then 1 else 60
theorem leastN_a {k : Nat} (h : 3 ≤ k) : leastN k = 1 := by unfold leastN; rw [if_neg (by omega)]
theorem leastN_b {k : Nat} (h : ¬ 3 ≤ k) : leastN k = 0 := by unfold leastN; rw [if_pos (by omega)]
theorem mostN_a {k : Nat} (h : ¬ 2 ≤ k) : mostN k = 2 := by unfold mostN; rw [if_pos (by omega)]
theorem mostN_b {k : Nat} (h : k = 2) : mostN k = 1 := by unfold mostN; rw [if_neg (by omega), if_pos h]
theorem mostN_c {k : Nat} (h : 2 ≤ k) (g : ¬ k = 2) : mostN k = 60 := by unfold mostN; rw [if_neg (by omega), if_neg g]
theorem leastN_le (k : Nat) : leastN k ≤ 1 := by unfold leastN; split <;> omega
theorem mostN_le (k : Nat) : mostN k ≤ 60 := by unfold mostN; split; omega; split <;> omega
def ruleS (b : Bool) (o : Nat) (st : St) : St := if b && mLent st o then mEnd o st else st
theorem ruleS_f (o : Nat) (st : St) : ruleS false o st = st := by simp [ruleS]
def mRule (st : St) (what v : Int32) : Int32 × St := if frB what 0 5 = false then (-2, st) else if frB v (nI (leastN (cl what))) (nI (mostN (cl what))) = false then (-2, st) else (st 0 (cl what), (lapseC (iF (ruleS (decide (cl what = 0) && !decide (v = st 0 (cl what)))) 16 0 (sU st 0 (cl what) v))).1)
theorem iF_s {σ : Type} (f : Nat → σ → σ) (n i : Nat) (x : σ) : iF f (n + 1) i x = iF f n (i + 1) (f i x) := rfl
theorem ruleS_n {b : Bool} {i : Nat} {st : St} (h : mLent st i = false) : ruleS b i st = st := by simp [ruleS, h]
theorem ruleS_t {b : Bool} {i : Nat} {st : St} (hb : b = true) (h : mLent st i = true) : ruleS b i st = mEnd i st := by simp [ruleS, h, hb]
theorem iF_ruleF {b : Bool} (hb : b = false) (n i : Nat) (st : St) : iF (ruleS b) n i st = st := by
  subst hb
  exact iF_id _ ruleS_f n i st
theorem frB_to {k a b : Nat} (h1 : a ≤ k) (h2 : k ≤ b) (hb : b < 2 ^ 31) : frB (nI k) (nI a) (nI b) = true := by
  unfold frB
  rw [decide_eq_true (nI_le h1 (by omega)), decide_eq_true (nI_le h2 hb)]
  rfl
theorem mRule_1 (st : St) (v : Int32) (k : Nat) (hk : k < 6) (h : frB v (nI (leastN k)) (nI (mostN k)) = true) : (mRule st (nI k) v).1 = st 0 k := by
  have h0 : frB (nI k) 0 5 = true := frB_to (a := 0) (b := 5) (by omega) (by omega) (by decide)
  unfold mRule
  rw [cl_nI (by omega), h0, h]
  rfl
theorem mRule_2 (st : St) (v : Int32) (k : Nat) (hk : k < 6) (h : frB v (nI (leastN k)) (nI (mostN k)) = true) : (mRule st (nI k) v).2 = (lapseC (iF (ruleS (decide (k = 0) && !decide (v = st 0 k))) 16 0 (sU st 0 k v))).1 := by
  have h0 : frB (nI k) 0 5 = true := frB_to (a := 0) (b := 5) (by omega) (by omega) (by decide)
  unfold mRule
  rw [cl_nI (by omega), h0, h]
  rw [if_neg (by decide), if_neg (by decide)]
def bindP (st : St) (h pt r rp : Int32) (o : Nat) : Bool := decide (st 0 (7 + o) = h) && decide (st 0 (23 + o) = pt) && (decide (st 0 0 = 0) || decide (st 0 (39 + o) = r)) && (decide (st 0 0 < 2) || decide (st 0 (55 + o) = rp))
def bindO (st : St) (h pt r rp : Int32) : Option Nat := lF (bindP st h pt r rp) 16 0 none
theorem lF_lt {p : Nat → Bool} : ∀ {n i : Nat} {o : Option Nat} {j : Nat}, lF p n i o = some j → o = some j ∨ (i ≤ j ∧ j < i + n ∧ p j = true)
  | 0, i, o, j, h => Or.inl h
  | n + 1, i, o, j, h => by
    unfold lF at h
    rcases lF_lt h with q | q
    · by_cases hp : p i = true
      · rw [if_pos hp] at q
        have q := Option.some.inj q
        subst q
        exact Or.inr ⟨Nat.le_refl _, by omega, hp⟩
      · rw [if_neg hp] at q
        exact Or.inl q
    · exact Or.inr ⟨by omega, by omega, q.2.2⟩
theorem bindO_lt {st : St} {h pt r rp : Int32} {j : Nat} (q : bindO st h pt r rp = some j) : j < 16 := by
  rcases lF_lt q with q | q
  · cases q
  · omega
def blkF (st : St) : Nat → Nat → Int32 → Int32
  | 0, _, x => x
  | n + 1, i, x => blkF st n (i + 1) (if mLent st i then st 0 (7 + i) else x)
def blockM (st : St) (b : Nat) : Int32 := blkF st 4 (4 * b) (-6)
def fitM (st : St) (o port : Nat) : Bool := !mLent st o && (decide (st 0 2 = 0) || decide (o % 2 = port % 2))
def leastP (st : St) (h : Int32) (port o : Nat) : Bool := decide (blockM st (o / 4) = h) && fitM st o port
def leastM (st : St) (h : Int32) (port : Nat) : Option Nat := fF (leastP st h port) 16 0
theorem leastM_lt {st : St} {h : Int32} {port j : Nat} (q : leastM st h port = some j) : j < 16 := by
  have := fF_lt q
  omega
def chosenM (st : St) (h : Int32) (port : Nat) : Option Nat :=
  if decide (blockM st (port % 16 / 4) = h) && fitM st (port % 16) port then some (port % 16) else match leastM st h port with
    | some o => some o
    | none => if blockM st (port % 16 / 4) = -6 then some (port % 16) else leastM st (-6) port
theorem chosenM_lt {st : St} {h : Int32} {port j : Nat} (q : chosenM st h port = some j) : j < 16 := by
  unfold chosenM at q
  split at q
  · simp at q; omega
  · split at q
    · rename_i o h1
      have := leastM_lt h1
      simp at q
      omega
    · split at q
      · simp at q; omega
      · exact leastM_lt q
def zero5M (o : Nat) : Nat → St → St := fun i st => sU st 0 (103 + 5 * o + i) 0
def make1 (st : St) (o : Nat) (h pt : Int32) : St := sU (sU st 0 (7 + o) h) 0 (23 + o) pt
def make2 (st : St) (o : Nat) (r : Int32) : St := sU st 0 (39 + o) (if st 0 0 ≤ 0 then -6 else r)
def make3 (st : St) (o : Nat) (rp : Int32) : St := sU st 0 (55 + o) (if st 0 0 ≤ 1 then -6 else rp)
def makeM (st : St) (o : Nat) (h pt r rp : Int32) : St := iF (zero5M o) 5 0 (sU (make3 (make2 (make1 st o h pt) o r) o rp) 0 (71 + o) 0)
def markM (st : St) (o r rp : Nat) : St := sU st 0 (103 + 5 * o + r) (st 0 (103 + 5 * o + r) ||| 1 <<< (nI rp &&& 31))
def flagOM (st : St) (j f : Nat) : St := if f = 2 then sU st 0 (71 + j) 2 else if f = 1 then (if st 0 (71 + j) = 2 then sU st 0 (71 + j) 0 else st) else st
def sendFin (st : St) (j r rp f : Nat) : St := flagOM (sU (markM st j r rp) 0 (87 + j) (markM st j r rp 0 6)) j f
def sendO (st : St) (host port r rp : Nat) : Option Nat := match bindO st (nI host) (nI port) (nI r) (nI rp) with
  | some j => some j
  | none => chosenM st (nI host) port
def sendC (st : St) (host port r rp f : Nat) : St := match bindO st (nI host) (nI port) (nI r) (nI rp) with
  | some j => sendFin st j r rp f
  | none => match chosenM st (nI host) port with
    | none => st
    | some j => sendFin (makeM st j (nI host) (nI port) (nI r) (nI rp)) j r rp f
theorem sendO_lt {st : St} {host port r rp j : Nat} (h : sendO st host port r rp = some j) : j < 16 := by
  unfold sendO at h
  split at h
  · rename_i j2 h2
    have := bindO_lt h2
    simp at h; omega
  · exact chosenM_lt h
def whyM (st : St) (r rp o : Nat) : Nat := if mLent st o = false then 1 else if (st 0 1 = 1 ∧ st 0 (103 + 5 * o + r) = 0) ∨ (st 0 1 = 2 ∧ st 0 (103 + 5 * o + r) >>> (nI rp &&& 31) &&& 1 = 0) then 2 else 0
theorem whyM_le (st : St) (r rp o : Nat) : whyM st r rp o ≤ 2 := by
  unfold whyM
  split
  · omega
  · split <;> omega
def insideM (st : St) (o : Nat) : Int32 := 32 * st 0 (7 + o) + st 0 (23 + o)
def flagIM (st : St) (o f : Nat) : St := if f = 2 then sU st 0 (71 + o) 2 else if st 0 (71 + o) = 0 then sU st 0 (71 + o) 1 else st
def recvC (st : St) (r rp o f : Nat) : St := if whyM st r rp o = 0 then flagIM (sU st 0 (87 + o) (st 0 6)) o f else st
def recvR (st : St) (r rp o f : Nat) : Int32 := if whyM st r rp o = 0 then insideM (recvC st r rp o f) o else -6
def knownM (st : St) (k : Nat) : Bool := !decide (st 0 (183 + k) ≤ st 0 6)
def heldM (st : St) (v : Nat) : Bool := !decide (st 0 (247 + v) ≤ st 0 6)
def knownManyM (st : St) : Nat := cF (knownM st) 32 0
def lentManyM (st : St) : Nat := cF (mLent st) 16 0
def heldManyM (st : St) : Nat := cF (heldM st) 256 0
def letS (k i : Nat) (x : St × Nat) : St × Nat := (sU x.1 0 (247 + 8 * k + i) 0, x.2 + (if !decide (x.1 0 (247 + 8 * k + i) ≤ x.1 0 6) then 1 else 0))
def letGoC (st : St) (k : Nat) : St × Nat := iF (letS k) 8 0 (st, 0)
def firstM (st : St) (r k rp o : Nat) : Int32 × St :=
  let x := letGoC st k
  let y := recvC x.1 r rp o 0
  if 0 ≤ recvR x.1 r rp o 0 then (nI (x.2 + 1), sU (sU y 0 (183 + k) (y 0 6 + 5)) 0 (215 + k) (nI o)) else (-6, sU y 0 (183 + k) 0)
def holdM (st : St) (k pt : Nat) : Int32 × St := if !decide (st 0 (247 + 8 * k + pt) ≤ st 0 6) then (0, st) else if heldManyM st = 6 then (-4, st) else (0, sU st 0 (247 + 8 * k + pt) (st 0 6 + 5))
def tickS (_ : Nat) (x : St × Nat) : St × Nat := ((lapseC (sU x.1 0 6 (x.1 0 6 + 1))).1, x.2 + (lapseC (sU x.1 0 6 (x.1 0 6 + 1))).2)
def dropM (h : Int32) (o : Nat) (x : St × Nat) : St × Nat := if x.1 0 (7 + o) = h then (mEnd o x.1, x.2 + 1) else x
def bitSum (x : Int32) (n : Int32) : Int32 := sumF (fun q => x >>> (nI q &&& 31) &&& 1) 32 0 n
def sentF (st : St) (o : Nat) : Nat → Nat → Int32 → Int32
  | 0, _, x => x
  | n + 1, i, x => sentF st o n (i + 1) (bitSum (st 0 (103 + 5 * o + i)) x)
def sentManyM (st : St) (o : Nat) : Int32 := sentF st o 5 0 0
def toldM (st : St) (o : Nat) (what : Int32) : Int32 := if what = 0 then insideM st o else if what = 1 then st 0 (71 + o) else if what = 2 then endOfM st o - st 0 6 else if what = 3 then sentManyM st o else if what = 4 then st 0 (39 + o) else st 0 (55 + o)
def bindManyM (st : St) (h : Int32) : Nat := cF (fun o => decide (st 0 (7 + o) = h)) 16 0
def orM (st : St) (h : Int32) : Nat → Nat → Int32 → Int32
  | 0, _, x => x
  | n + 1, i, x => orM st h n (i + 1) (x ||| (if blockM st i = h then 1 <<< (nI i &&& 31) else 0))
def blocksM (st : St) (h : Int32) : Int32 := orM st h 4 0 0
def roomM (st : St) (h : Int32) (port : Nat) : Nat := cF (fun o => (decide (blockM st (o / 4) = h) || decide (blockM st (o / 4) = -6)) && fitM st o port) 16 0
def soonF (st : St) : Nat → Nat → Int32 → Int32
  | 0, _, x => x
  | n + 1, i, x => soonF st n (i + 1) (if mLent st i && (decide (x < 0) || !decide (x ≤ endOfM st i - st 0 6)) then endOfM st i - st 0 6 else x)
def bitsM (x : Int32) : Int32 := sumF (fun q => x >>> (nI q &&& 31) &&& 1) 4 0 0
def imgS (k i : Nat) (st : St) : St := sU st 1 (503 * k + i) (st 0 i)
def resS (k i : Nat) (st : St) : St := sU st 0 i (st 1 (503 * k + i))
/-! what the reference's calls answer, and how its numbers are then -/
def mOut (st : St) (h pt r rp f : Int32) : Int32 × St := if rg h 4 = false then (-1, st) else if rg pt 32 = false ∨ rgR r rp = false ∨ rg f 3 = false then (-2, st) else (oN (sendO st (cl h) (cl pt) (cl r) (cl rp)), sendC st (cl h) (cl pt) (cl r) (cl rp) (cl f))
def mIn (st : St) (r rp o f : Int32) : Int32 × St := if rgR r rp = false then (-2, st) else if rg o 16 = false then (-1, st) else if rg f 3 = false then (-2, st) else (recvR st (cl r) (cl rp) (cl o) (cl f), recvC st (cl r) (cl rp) (cl o) (cl f))
def mTurn (st : St) (h pt o f : Int32) : Int32 × St := if rg h 4 = false then (-1, st) else if rg pt 32 = false then (-2, st) else if rg o 16 = false then (-1, st) else if rg f 3 = false then (-2, st) else match sendO st (cl h) (cl pt) 4 (cl o) with
  | none => (-5, sendC st (cl h) (cl pt) 4 (cl o) (cl f))
  | some j => (recvR (sendC st (cl h) (cl pt) 4 (cl o) (cl f)) 4 j (cl o) (cl f), recvC (sendC st (cl h) (cl pt) 4 (cl o) (cl f)) 4 j (cl o) (cl f))
def mPart (st : St) (r nm pt rp o : Int32) : Int32 × St := if frB r 0 3 = false ∨ frB nm 0 7 = false ∨ frB pt 0 7 = false then (-2, st) else if cl pt ≤ 0 then (if rg rp 32 = false then (-2, st) else if rg o 16 = false then (-1, st) else firstM st (cl r) (8 * cl r + cl nm) (cl rp) (cl o)) else if knownM st (8 * cl r + cl nm) then (1, st) else holdM st (8 * cl r + cl nm) (cl pt)
def mTick (st : St) (n : Int32) : Int32 × St := if frB n 1 100 = false then (-2, st) else (nI (iF tickS (cl n) 0 (st, 0)).2, (iF tickS (cl n) 0 (st, 0)).1)
def mDrop (st : St) (h : Int32) : Int32 × St := if rg h 4 = false then (-1, st) else (nI (iF (dropM h) 16 0 (st, 0)).2, (iF (dropM h) 16 0 (st, 0)).1)
def mOf (st : St) (o what : Int32) : Int32 := if rg o 16 = false then -1 else if frB what 0 5 = false then -2 else if mLent st (cl o) then toldM st (cl o) what else -6
def mSent (st : St) (o r rp : Int32) : Int32 := if rg o 16 = false then -1 else if rgR r rp = false then -2 else if mLent st (cl o) then st 0 (103 + 5 * cl o + cl r) >>> (rp &&& 31) &&& 1 else -6
def mFind (st : St) (h pt r rp : Int32) : Int32 := if rg h 4 = false then -1 else if rg pt 32 = false ∨ rgR r rp = false then -2 else oI (bindO st h pt r rp)
def mNext (st : St) (h pt : Int32) : Int32 := if rg h 4 = false then -1 else if rg pt 32 = false then -2 else oI (chosenM st h (cl pt))
def mWhy (st : St) (r rp o : Int32) : Int32 := if rgR r rp = false then -2 else if rg o 16 = false then -1 else nI (whyM st (cl r) (cl rp) (cl o))
def mBlock (st : St) (b : Int32) : Int32 := if frB b 0 3 = false then -1 else blockM st (cl b)
def mHost (st : St) (h what : Int32) : Int32 := if rg h 4 = false then -1 else if what = 0 then nI (bindManyM st h) else if what = 1 then blocksM st h else if what = 2 then nI (roomM st h 0) else if what = 3 then nI (roomM st h 1) else -2
def mImage (st : St) (k : Int32) : Int32 × St := if frB k 0 1 = false then (-2, st) else (1, sU (iF (imgS (cl k)) 503 0 st) 2 (cl k) 1)
def mRestore (st : St) (k : Int32) : Int32 × St := if frB k 0 1 = false then (-2, st) else if st 2 (cl k) = 0 then (-3, st) else (1, iF (resS (cl k)) 503 0 st)
def mCount (st : St) (what : Int32) : Int32 := if frB what 10 15 then st 0 (cl what - 10) else if what = 0 then nI (lentManyM st) else if what = 1 then st 0 6 else if what = 2 then bitsM (blocksM st (-6)) else if what = 3 then nI (heldManyM st) else if what = 4 then nI (knownManyM st) else if what = 5 then nI ((if st 2 0 = 0 then 0 else 1) + (if st 2 1 = 0 then 0 else 2)) else -2
