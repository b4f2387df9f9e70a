theorem nI_inj {a b : Nat} (ha : a < 2 ^ 31) (hb : b < 2 ^ 31) (h : nI a = nI b) : a = b := (nI_eq ha hb).mp h
theorem cF_congr {p q : Nat → Bool} : ∀ {n i : Nat}, (∀ j, i ≤ j → j < i + n → p j = q j) → cF p n i = cF q n i
  | 0, _, _ => rfl
  | n + 1, i, h => by
    unfold cF
    rw [h i (Nat.le_refl _) (by omega), cF_congr (n := n) (i := i + 1) (fun j h1 h2 => h j (by omega) (by omega))]
theorem cF_add {p q r : Nat → Bool} : ∀ {n i : Nat}, (∀ j, i ≤ j → j < i + n → (if p j then 1 else 0) + (if q j then 1 else 0) = (if r j then 1 else 0 : Nat)) → cF p n i + cF q n i = cF r n i
  | 0, _, _ => rfl
  | n + 1, i, h => by
    unfold cF
    have h1 := h i (Nat.le_refl _) (by omega)
    have h2 := cF_add (n := n) (i := i + 1) (p := p) (q := q) (r := r) (fun j h1 h2 => h j (by omega) (by omega))
    omega
theorem forget_at (v : Int32) (i : Nat) (st : St) (k j : Nat) : forgetAllC v i st k j = if k = 7 ∧ j = i ∧ st 7 i = v then -6 else st k j := by
  unfold forgetAllC
  by_cases h : st 7 i = v
  · rw [if_pos h, sU_at]
    by_cases h2 : k = 7 ∧ j = i
    · rw [if_pos h2, if_pos ⟨h2.1, h2.2, h⟩]
    · rw [if_neg h2, if_neg (fun q => h2 ⟨q.1, q.2.1⟩)]
  · rw [if_neg h, if_neg (fun q => h q.2.2)]
theorem forgetAll_at (v : Int32) : ∀ (n i : Nat) (st : St) (k j : Nat), iF (forgetAllC v) n i st k j = if k = 7 ∧ i ≤ j ∧ j < i + n ∧ st 7 j = v then -6 else st k j
  | 0, i, st, k, j => by
    unfold iF
    rw [if_neg (by omega)]
  | n + 1, i, st, k, j => by
    rw [iF_s, forgetAll_at v n (i + 1), forget_at, forget_at]
    by_cases hk : k = 7
    · by_cases hj : j = i
      · subst hj
        rw [if_neg (fun q => by omega)]
        by_cases h : st 7 j = v
        · rw [if_pos ⟨hk, rfl, h⟩, if_pos ⟨hk, by omega, by omega, h⟩]
        · rw [if_neg (fun q => h q.2.2), if_neg (fun q => h q.2.2.2)]
      · rw [if_neg (c := 7 = 7 ∧ j = i ∧ st 7 i = v) (fun q => hj q.2.1), if_neg (c := k = 7 ∧ j = i ∧ st 7 i = v) (fun q => hj q.2.1)]
        by_cases hr : i ≤ j ∧ j < i + (n + 1) ∧ st 7 j = v
        · rw [if_pos ⟨hk, by omega, by omega, hr.2.2⟩, if_pos ⟨hk, hr.1, hr.2.1, hr.2.2⟩]
        · rw [if_neg (fun q => hr ⟨by omega, by omega, q.2.2.2⟩), if_neg (fun q => hr ⟨q.2.1, q.2.2.1, q.2.2.2⟩)]
    · rw [if_neg (fun q => hk q.1), if_neg (fun q => hk q.1), if_neg (fun q => hk q.1)]
theorem endB_at (o : Nat) (st : St) (k j : Nat) : endB o st k j = if k = 7 ∧ j < 32 ∧ st 7 j = nI o then -6 else if k = 1 ∧ j = o then -6 else st k j := by
  unfold endB
  rw [forgetAll_at]
  have e : sU st 1 o (-6) 7 j = st 7 j := by rw [sU_at, if_neg (by omega)]
  rw [e, sU_at]
  by_cases h : k = 7 ∧ j < 32 ∧ st 7 j = nI o
  · rw [if_pos h, if_pos ⟨h.1, by omega, by omega, h.2.2⟩]
  · rw [if_neg h, if_neg (fun q => h ⟨q.1, by omega, q.2.2.2⟩)]
/-- st' is st with the bindings of P ended -/
def EndB (P : Nat → Bool) (st st' : St) : Prop :=
  (∀ o, o < 16 → st' 1 o = if P o then -6 else st 1 o) ∧
  (∀ k, k < 32 → (∃ o, o < 16 ∧ P o = true ∧ st 7 k = nI o) → st' 7 k = -6) ∧
  (∀ k, k < 32 → (¬ ∃ o, o < 16 ∧ P o = true ∧ st 7 k = nI o) → st' 7 k = st 7 k) ∧
  (∀ k i, k ≠ 1 → k ≠ 7 → st' k i = st k i)
theorem EndB_congr {P P' : Nat → Bool} {st st' : St} (h : ∀ o, o < 16 → P o = P' o) (E0 : EndB P st st') : EndB P' st st' := by
  obtain ⟨h1, h2, h3, h4⟩ := E0
  refine ⟨fun o ho => by rw [← h o ho]; exact h1 o ho, fun k hk q => h2 k hk ?_, fun k hk q => h3 k hk (fun z => q ?_), h4⟩
  · obtain ⟨o, a, b, c⟩ := q
    exact ⟨o, a, by rw [h o a]; exact b, c⟩
  · obtain ⟨o, a, b, c⟩ := z
    exact ⟨o, a, by rw [← h o a]; exact b, c⟩
theorem EndB_none {P : Nat → Bool} {st : St} (h : ∀ o, o < 16 → P o = false) : EndB P st st := by
  refine ⟨fun o ho => by rw [h o ho]; rfl, fun k hk q => ?_, fun _ _ _ => rfl, fun _ _ _ _ => rfl⟩
  obtain ⟨o, a, b, c⟩ := q
  rw [h o a] at b
  cases b
theorem m6_ne {o : Nat} (h : o < 16) : ¬ (-6 : Int32) = nI o := fun q => nI_m6 (by omega) q.symm
theorem EndB_step {P P' : Nat → Bool} {st st' : St} {i : Nat} (hi : i < 16) (E0 : EndB P (endB i st) st') (hP : ∀ o, o < 16 → P' o = (decide (o = i) || P o)) : EndB P' st st' := by
  obtain ⟨h1, h2, h3, h4⟩ := E0
  have a7 : ∀ k, k < 32 → endB i st 7 k = if st 7 k = nI i then -6 else st 7 k := by
    intro k hk
    rw [endB_at]
    by_cases q : st 7 k = nI i
    · rw [if_pos ⟨rfl, hk, q⟩, if_pos q]
    · rw [if_neg (fun z => q z.2.2), if_neg (by omega), if_neg q]
  refine ⟨fun o ho => ?_, fun k hk q => ?_, fun k hk q => ?_, fun k j n1 n7 => ?_⟩
  · have e1 : endB i st 1 o = if o = i then -6 else st 1 o := by
      rw [endB_at, if_neg (by omega)]
      by_cases q : o = i
      · rw [if_pos ⟨rfl, q⟩, if_pos q]
      · rw [if_neg (fun z => q z.2), if_neg q]
    rw [h1 o ho, hP o ho, e1]
    by_cases q : o = i
    · subst q
      simp
    · simp [q]
  · obtain ⟨o, a, b, c⟩ := q
    rw [hP o a] at b
    by_cases q2 : ∃ o, o < 16 ∧ P o = true ∧ endB i st 7 k = nI o
    · exact h2 k hk q2
    · rw [h3 k hk q2, a7 k hk]
      by_cases q3 : st 7 k = nI i
      · rw [if_pos q3]
      · exfalso
        apply q2
        have hoi : ¬ o = i := fun z => q3 (by rw [← z]; exact c)
        simp [hoi] at b
        exact ⟨o, a, b, by rw [a7 k hk, if_neg q3]; exact c⟩
  · have q3 : ¬ st 7 k = nI i := fun z => q ⟨i, hi, by rw [hP i hi]; simp, z⟩
    have e7 : endB i st 7 k = st 7 k := by rw [a7 k hk, if_neg q3]
    rw [h3 k hk (fun z => ?_), e7]
    obtain ⟨o, a, b, c⟩ := z
    rw [e7] at c
    exact q ⟨o, a, by rw [hP o a, b]; simp, c⟩
  · rw [h4 k j n1 n7, endB_at, if_neg (fun z => n7 z.1), if_neg (fun z => n1 z.1)]
theorem endB_loop {f : Nat → St × Nat → St × Nat} {Q : St → Nat → Bool} (hf : ∀ o x, f o x = if Q x.1 o then (endB o x.1, x.2 + 1) else x) (hQ : ∀ s o o', o < 16 → o' < 16 → o ≠ o' → Q (endB o' s) o = Q s o) :
    ∀ (n i : Nat) (x : St × Nat), i + n = 16 → EndB (fun o => decide (i ≤ o) && Q x.1 o) x.1 (iF f n i x).1 ∧ (iF f n i x).2 = x.2 + cF (Q x.1) n i := by
  intro n
  induction n with
  | zero =>
    intro i x hi
    refine ⟨EndB_none (fun o ho => ?_), rfl⟩
    rw [decide_eq_false (by omega)]
    rfl
  | succ n ih =>
    intro i x hi
    rw [iF_s, hf]
    by_cases hq : Q x.1 i = true
    · rw [if_pos hq]
      obtain ⟨a1, a2⟩ := ih (i + 1) (endB i x.1, x.2 + 1) (by omega)
      dsimp only at a1 a2
      refine ⟨EndB_step (i := i) (by omega) a1 (fun o ho => ?_), ?_⟩
      · by_cases ho2 : o = i
        · subst ho2
          simp [hq]
        · rw [hQ x.1 o i ho (by omega) ho2]
          have e : (i ≤ o) ↔ (i + 1 ≤ o) := by omega
          simp [ho2, e]
      · rw [a2, cF_congr (q := Q x.1) (fun j h1 h2 => hQ x.1 j i (by omega) (by omega) (by omega))]
        show x.2 + 1 + cF (Q x.1) n (i + 1) = x.2 + ((if Q x.1 i then 1 else 0) + cF (Q x.1) n (i + 1))
        rw [if_pos hq]
        omega
    · rw [if_neg hq]
      obtain ⟨a1, a2⟩ := ih (i + 1) x (by omega)
      refine ⟨EndB_congr (fun o ho => ?_) a1, ?_⟩
      · by_cases ho2 : o = i
        · subst ho2
          have hq2 : Q x.1 o = false := by simpa using hq
          simp [hq2]
        · have e : (i ≤ o) ↔ (i + 1 ≤ o) := by omega
          simp [e]
      · rw [a2]
        show x.2 + cF (Q x.1) n (i + 1) = x.2 + ((if Q x.1 i then 1 else 0) + cF (Q x.1) n (i + 1))
        rw [if_neg hq]
        omega
theorem lentC_end {s : St} {o o' : Nat} (h : o ≠ o') : lentC (endB o' s) o = lentC s o := by
  unfold lentC
  rw [endB_at, if_neg (by omega), if_neg (by omega)]
theorem leftC_end (s : St) (o o' : Nat) : leftC (endB o' s) o = leftC s o := by
  unfold leftC lifeC
  simp only [endB_at]
  simp
/-- which bindings are over -/
def lapB (st : St) (o : Nat) : Bool := lentC st o && !decide (0 < leftC st o)
theorem endLap_form (st : St) : EndB (lapB st) st (endLapC st).1 ∧ (endLapC st).2 = cF (lapB st) 16 0 := by
  obtain ⟨a1, a2⟩ := endB_loop (f := lapS) (Q := lapB) (fun o x => rfl) (fun s o o' _ _ h => by unfold lapB; rw [lentC_end h, leftC_end]) 16 0 (st, 0) rfl
  refine ⟨EndB_congr (fun o _ => by simp) a1, ?_⟩
  unfold endLapC
  rw [a2]
  simp
theorem drop_form (st : St) (h : Int32) : EndB (fun o => decide (hostC st o = h)) st (iF (dropS h) 16 0 (st, 0)).1 ∧ (iF (dropS h) 16 0 (st, 0)).2 = cF (fun o => decide (hostC st o = h)) 16 0 := by
  obtain ⟨a1, a2⟩ := endB_loop (f := dropS h) (Q := fun s o => decide (hostC s o = h)) (fun o x => by unfold dropS; simp) (fun s o o' _ _ hh => by
    have e1 : endB o' s 1 o = s 1 o := by rw [endB_at, if_neg (by omega), if_neg (by omega)]
    unfold hostC
    rw [lentC_end hh, e1]) 16 0 (st, 0) rfl
  refine ⟨EndB_congr (fun o _ => by simp) a1, ?_⟩
  rw [a2]
  simp
theorem endAll_form (st : St) : EndB (fun _ => true) st (endAllC st) := by
  have key : ∀ (n i : Nat) (x : St), i + n = 16 → EndB (fun o => decide (i ≤ o)) x (iF endB n i x) := by
    intro n
    induction n with
    | zero =>
      intro i x hi
      exact EndB_none (fun o ho => by rw [decide_eq_false (by omega)])
    | succ n ih =>
      intro i x hi
      rw [iF_s]
      refine EndB_step (i := i) (by omega) (ih (i + 1) (endB i x) (by omega)) (fun o ho => ?_)
      by_cases ho2 : o = i
      · subst ho2
        simp
      · have e : (i ≤ o) ↔ (i + 1 ≤ o) := by omega
        simp [ho2, e]
  exact EndB_congr (fun o _ => by simp) (key 16 0 st rfl)
/-! the same of the reference -/
theorem mEndK_at (v : Int32) : ∀ (n i : Nat) (m : St) (k j : Nat), i + n ≤ 32 → iF (mEndK v) n i m k j = if k = 0 ∧ 183 + i ≤ j ∧ j < 183 + i + n ∧ ¬ m 0 j ≤ m 0 6 ∧ m 0 (j + 32) = v then 0 else m k j
  | 0, i, m, k, j, _ => by
    unfold iF
    rw [if_neg (by omega)]
  | n + 1, i, m, k, j, hn => by
    rw [iF_s, mEndK_at v n (i + 1) _ k j (by omega)]
    have h6 : (mEndK v i m) 0 6 = m 0 6 := by
      unfold mEndK
      split
      · rw [sU_at, if_neg (by omega)]
      · rfl
    have hb : ∀ j, 215 ≤ j → (mEndK v i m) 0 j = m 0 j := by
      intro j hj
      unfold mEndK
      split
      · rw [sU_at, if_neg (by omega)]
      · rfl
    by_cases hk : k = 0
    · subst hk
      by_cases hj : j = 183 + i
      · subst hj
        rw [if_neg (by omega)]
        unfold mEndK
        have e : 183 + i + 32 = 215 + i := by omega
        by_cases c1 : ¬ m 0 (183 + i) ≤ m 0 6 ∧ m 0 (215 + i) = v
        · rw [if_pos (by simp [c1.1, c1.2]), sU_at, if_pos ⟨rfl, rfl⟩, if_pos ⟨rfl, by omega, by omega, c1.1, by rw [e]; exact c1.2⟩]
        · rw [if_neg (by simpa using c1), if_neg (fun q => c1 ⟨q.2.2.2.1, by rw [← e]; exact q.2.2.2.2⟩)]
      · have hm : (mEndK v i m) 0 j = m 0 j := by
          unfold mEndK
          split
          · rw [sU_at, if_neg (fun q => hj q.2)]
          · rfl
        rw [h6, hm]
        by_cases hr : 183 + i ≤ j ∧ j < 183 + i + (n + 1)
        · rw [hb (j + 32) (by omega)]
          by_cases c1 : ¬ m 0 j ≤ m 0 6 ∧ m 0 (j + 32) = v
          · rw [if_pos ⟨rfl, by omega, by omega, c1.1, c1.2⟩, if_pos ⟨rfl, hr.1, hr.2, c1.1, c1.2⟩]
          · rw [if_neg (fun q => c1 ⟨q.2.2.2.1, q.2.2.2.2⟩), if_neg (fun q => c1 ⟨q.2.2.2.1, q.2.2.2.2⟩)]
        · rw [if_neg (fun q => hr ⟨by omega, by omega⟩), if_neg (fun q => hr ⟨q.2.1, q.2.2.1⟩)]
    · rw [if_neg (fun q => hk q.1), if_neg (fun q => hk q.1)]
      unfold mEndK
      split
      · rw [sU_at, if_neg (fun q => hk q.1)]
      · rfl
theorem mEnd_at {o : Nat} (ho : o < 16) (m : St) (k j : Nat) : mEnd o m k j = if k = 0 ∧ 183 ≤ j ∧ j < 215 ∧ ¬ m 0 j ≤ m 0 6 ∧ m 0 (j + 32) = nI o then 0 else if k = 0 ∧ j = 7 + o then -6 else m k j := by
  unfold mEnd
  rw [mEndK_at _ 32 0 _ _ _ (by omega)]
  have e6 : sU m 0 (7 + o) (-6) 0 6 = m 0 6 := by rw [sU_at, if_neg (by omega)]
  have ej : ∀ j, 183 ≤ j → sU m 0 (7 + o) (-6) 0 j = m 0 j := fun j hj => by rw [sU_at, if_neg (by omega)]
  by_cases hr : k = 0 ∧ 183 ≤ j ∧ j < 215
  · rw [e6, ej j hr.2.1, ej (j + 32) (by omega)]
    by_cases c1 : ¬ m 0 j ≤ m 0 6 ∧ m 0 (j + 32) = nI o
    · rw [if_pos ⟨hr.1, by omega, by omega, c1.1, c1.2⟩, if_pos ⟨hr.1, hr.2.1, hr.2.2, c1.1, c1.2⟩]
    · rw [if_neg (fun q => c1 ⟨q.2.2.2.1, q.2.2.2.2⟩), if_neg (fun q => c1 ⟨q.2.2.2.1, q.2.2.2.2⟩), sU_at]
  · rw [if_neg (fun q => hr ⟨q.1, by omega, by omega⟩), if_neg (fun q => hr ⟨q.1, q.2.1, q.2.2.1⟩), sU_at]
def EndM (P : Nat → Bool) (m m' : St) : Prop :=
  (∀ o, o < 16 → m' 0 (7 + o) = if P o then -6 else m 0 (7 + o)) ∧
  (∀ k, k < 32 → ¬ m 0 (183 + k) ≤ m 0 6 → (∃ o, o < 16 ∧ P o = true ∧ m 0 (215 + k) = nI o) → m' 0 (183 + k) = 0) ∧
  (∀ k, k < 32 → ¬ (¬ m 0 (183 + k) ≤ m 0 6 ∧ ∃ o, o < 16 ∧ P o = true ∧ m 0 (215 + k) = nI o) → m' 0 (183 + k) = m 0 (183 + k)) ∧
  (∀ j, (j < 7 ∨ (23 ≤ j ∧ j < 183) ∨ 215 ≤ j) → m' 0 j = m 0 j) ∧
  (∀ k i, k ≠ 0 → m' k i = m k i)
theorem EndM_congr {P P' : Nat → Bool} {m m' : St} (h : ∀ o, o < 16 → P o = P' o) (E0 : EndM P m m') : EndM P' m m' := by
  obtain ⟨h1, h2, h3, h4, h5⟩ := E0
  refine ⟨fun o ho => by rw [← h o ho]; exact h1 o ho, fun k hk c q => h2 k hk c ?_, fun k hk q => h3 k hk (fun z => q ⟨z.1, ?_⟩), h4, h5⟩
  · obtain ⟨o, a, b, c⟩ := q
    exact ⟨o, a, by rw [h o a]; exact b, c⟩
  · obtain ⟨-, o, a, b, c⟩ := z
    exact ⟨o, a, by rw [← h o a]; exact b, c⟩
theorem EndM_none {P : Nat → Bool} {m : St} (h : ∀ o, o < 16 → P o = false) : EndM P m m := by
  refine ⟨fun o ho => by rw [h o ho]; rfl, fun k hk c q => ?_, fun _ _ _ => rfl, fun _ _ => rfl, fun _ _ _ => rfl⟩
  obtain ⟨o, a, b, c⟩ := q
  rw [h o a] at b
  cases b
theorem EndM_step {P P' : Nat → Bool} {m m' : St} {i : Nat} (hi : i < 16) (E0 : EndM P (mEnd i m) m') (hP : ∀ o, o < 16 → P' o = (decide (o = i) || P o)) : EndM P' m m' := by
  obtain ⟨h1, h2, h3, h4, h5⟩ := E0
  have k6 : mEnd i m 0 6 = m 0 6 := by rw [mEnd_at hi, if_neg (by omega), if_neg (by omega)]
  have kb : ∀ k, k < 32 → mEnd i m 0 (215 + k) = m 0 (215 + k) := fun k hk => by rw [mEnd_at hi, if_neg (by omega), if_neg (by omega)]
  have a7 : ∀ k, k < 32 → mEnd i m 0 (183 + k) = if ¬ m 0 (183 + k) ≤ m 0 6 ∧ m 0 (215 + k) = nI i then 0 else m 0 (183 + k) := by
    intro k hk
    have e : 183 + k + 32 = 215 + k := by omega
    rw [mEnd_at hi, e]
    by_cases q : ¬ m 0 (183 + k) ≤ m 0 6 ∧ m 0 (215 + k) = nI i
    · rw [if_pos ⟨rfl, by omega, by omega, q.1, q.2⟩, if_pos q]
    · rw [if_neg (fun z => q ⟨z.2.2.2.1, z.2.2.2.2⟩), if_neg (by omega), if_neg q]
  refine ⟨fun o ho => ?_, fun k hk c0 q => ?_, fun k hk q => ?_, fun j hj => ?_, fun k j n0 => ?_⟩
  · have e1 : mEnd i m 0 (7 + o) = if o = i then -6 else m 0 (7 + o) := by
      rw [mEnd_at hi, if_neg (by omega)]
      by_cases q : o = i
      · rw [if_pos ⟨rfl, by omega⟩, if_pos q]
      · rw [if_neg (fun z => by omega), if_neg q]
    rw [h1 o ho, hP o ho, e1]
    by_cases q : o = i
    · subst q
      simp
    · simp [q]
  · obtain ⟨o, a, b, c⟩ := q
    rw [hP o a] at b
    by_cases q3 : m 0 (215 + k) = nI i
    · have z : mEnd i m 0 (183 + k) = 0 := by rw [a7 k hk, if_pos ⟨c0, q3⟩]
      by_cases q2 : ¬ mEnd i m 0 (183 + k) ≤ mEnd i m 0 6 ∧ ∃ o, o < 16 ∧ P o = true ∧ mEnd i m 0 (215 + k) = nI o
      · exact h2 k hk q2.1 q2.2
      · rw [h3 k hk q2, z]
    · have z : mEnd i m 0 (183 + k) = m 0 (183 + k) := by rw [a7 k hk, if_neg (fun y => q3 y.2)]
      have hoi : ¬ o = i := fun y => q3 (by rw [← y]; exact c)
      simp [hoi] at b
      exact h2 k hk (by rw [z, k6]; exact c0) ⟨o, a, b, by rw [kb k hk]; exact c⟩
  · have q3 : ¬ (¬ m 0 (183 + k) ≤ m 0 6 ∧ m 0 (215 + k) = nI i) := fun y => q ⟨y.1, i, hi, by rw [hP i hi]; simp, y.2⟩
    have z : mEnd i m 0 (183 + k) = m 0 (183 + k) := by rw [a7 k hk, if_neg q3]
    rw [h3 k hk (fun y => ?_), z]
    obtain ⟨c0, o, a, b, c⟩ := y
    rw [z, k6] at c0
    rw [kb k hk] at c
    exact q ⟨c0, o, a, by rw [hP o a, b]; simp, c⟩
  · rw [h4 j hj, mEnd_at hi, if_neg (by omega), if_neg (by omega)]
  · rw [h5 k j n0, mEnd_at hi, if_neg (fun y => n0 y.1), if_neg (fun y => n0 y.1)]
theorem mEnd_loop {f : Nat → St × Nat → St × Nat} {Q : St → Nat → Bool} (hf : ∀ o x, f o x = if Q x.1 o then (mEnd o x.1, x.2 + 1) else x) (hQ : ∀ s o o', o < 16 → o' < 16 → o ≠ o' → Q (mEnd o' s) o = Q s o) :
    ∀ (n i : Nat) (x : St × Nat), i + n = 16 → EndM (fun o => decide (i ≤ o) && Q x.1 o) x.1 (iF f n i x).1 ∧ (iF f n i x).2 = x.2 + cF (Q x.1) n i := by
  intro n
  induction n with
  | zero =>
    intro i x hi
    refine ⟨EndM_none (fun o ho => ?_), rfl⟩
    rw [decide_eq_false (by omega)]
    rfl
  | succ n ih =>
    intro i x hi
    rw [iF_s, hf]
    by_cases hq : Q x.1 i = true
    · rw [if_pos hq]
      obtain ⟨a1, a2⟩ := ih (i + 1) (mEnd i x.1, x.2 + 1) (by omega)
      dsimp only at a1 a2
      refine ⟨EndM_step (i := i) (by omega) a1 (fun o ho => ?_), ?_⟩
      · by_cases ho2 : o = i
        · subst ho2
          simp [hq]
        · rw [hQ x.1 o i ho (by omega) ho2]
          have e : (i ≤ o) ↔ (i + 1 ≤ o) := by omega
          simp [ho2, e]
      · rw [a2, cF_congr (q := Q x.1) (fun j h1 h2 => hQ x.1 j i (by omega) (by omega) (by omega))]
        show x.2 + 1 + cF (Q x.1) n (i + 1) = x.2 + ((if Q x.1 i then 1 else 0) + cF (Q x.1) n (i + 1))
        rw [if_pos hq]
        omega
    · rw [if_neg hq]
      obtain ⟨a1, a2⟩ := ih (i + 1) x (by omega)
      refine ⟨EndM_congr (fun o ho => ?_) a1, ?_⟩
      · by_cases ho2 : o = i
        · subst ho2
          have hq2 : Q x.1 o = false := by simpa using hq
          simp [hq2]
        · have e : (i ≤ o) ↔ (i + 1 ≤ o) := by omega
          simp [e]
      · rw [a2]
        show x.2 + cF (Q x.1) n (i + 1) = x.2 + ((if Q x.1 i then 1 else 0) + cF (Q x.1) n (i + 1))
        rw [if_neg hq]
        omega
theorem mEnd_lo {o : Nat} (ho : o < 16) (m : St) {j : Nat} (h : j < 7 ∨ (23 ≤ j ∧ j < 183) ∨ 215 ≤ j) : mEnd o m 0 j = m 0 j := by rw [mEnd_at ho, if_neg (by omega), if_neg (by omega)]
theorem mLent_end {s : St} {o o' : Nat} (h2 : o < 16) (h3 : o' < 16) (h : o ≠ o') : mLent (mEnd o' s) o = mLent s o := by
  unfold mLent
  rw [mEnd_at h3, if_neg (by omega), if_neg (by omega)]
def lapM (m : St) (o : Nat) : Bool := mLent m o && !decide (m 0 6 < endOfM m o)
/-- what the loop needs of the reference's numbers: IS is 0 to 2 -/
theorem endOf_end {s : St} (hI : isOk s) {o o' : Nat} (ho : o < 16) (h3 : o' < 16) : endOfM (mEnd o' s) o = endOfM s o := by
  obtain ⟨z, hz, ez⟩ := hI o ho
  unfold endOfM
  rw [mEnd_lo h3 s (j := 71 + o) (by omega), ez, cl_nI (by omega), mEnd_lo h3 s (j := 87 + o) (by omega), mEnd_lo h3 s (j := 3 + z) (by omega)]
theorem lapM_end {s : St} (hI : isOk s) {o o' : Nat} (ho : o < 16) (h3 : o' < 16) (h : o ≠ o') : lapM (mEnd o' s) o = lapM s o := by
  unfold lapM
  rw [mLent_end ho h3 h, endOf_end hI ho h3, mEnd_lo h3 s (j := 6) (by omega)]
theorem lapse_form {m : St} (hI : isOk m) : EndM (lapM m) m (lapseC m).1 ∧ (lapseC m).2 = cF (lapM m) 16 0 := by
  have key : ∀ (n i : Nat) (x : St × Nat), i + n = 16 → isOk x.1 → EndM (fun o => decide (i ≤ o) && lapM x.1 o) x.1 (iF mLap n i x).1 ∧ (iF mLap n i x).2 = x.2 + cF (lapM x.1) n i := by
    intro n
    induction n with
    | zero =>
      intro i x hi _
      refine ⟨EndM_none (fun o ho => ?_), rfl⟩
      rw [decide_eq_false (by omega)]
      rfl
    | succ n ih =>
      intro i x hi hI
      rw [iF_s]
      by_cases hq : lapM x.1 i = true
      · rw [show mLap i x = (mEnd i x.1, x.2 + 1) from by unfold mLap; unfold lapM at hq; rw [if_pos hq]]
        have hm := isOk_mEnd (o := i) (st := x.1) (by omega) hI
        have ih2 := ih (i + 1) (mEnd i x.1, x.2 + 1) (by omega)
        dsimp only at ih2
        obtain ⟨a1, a2⟩ := ih2 hm
        refine ⟨EndM_step (i := i) (by omega) a1 (fun o ho => ?_), ?_⟩
        · by_cases ho2 : o = i
          · subst ho2
            simp [hq]
          · rw [lapM_end hI ho (by omega) ho2]
            have e : (i ≤ o) ↔ (i + 1 ≤ o) := by omega
            simp [ho2, e]
        · rw [a2, cF_congr (q := lapM x.1) (fun j h1 h2 => lapM_end hI (by omega) (by omega) (by omega))]
          show x.2 + 1 + cF (lapM x.1) n (i + 1) = x.2 + ((if lapM x.1 i then 1 else 0) + cF (lapM x.1) n (i + 1))
          rw [if_pos hq]
          omega
      · rw [show mLap i x = x from by unfold mLap; unfold lapM at hq; rw [if_neg hq]]
        obtain ⟨a1, a2⟩ := ih (i + 1) x (by omega) hI
        refine ⟨EndM_congr (fun o ho => ?_) a1, ?_⟩
        · by_cases ho2 : o = i
          · subst ho2
            have hq2 : lapM x.1 o = false := by simpa using hq
            simp [hq2]
          · have e : (i ≤ o) ↔ (i + 1 ≤ o) := by omega
            simp [e]
        · rw [a2]
          show x.2 + cF (lapM x.1) n (i + 1) = x.2 + ((if lapM x.1 i then 1 else 0) + cF (lapM x.1) n (i + 1))
          rw [if_neg hq]
          omega
  obtain ⟨a1, a2⟩ := key 16 0 (m, 0) rfl hI
  refine ⟨EndM_congr (fun o _ => by simp) a1, ?_⟩
  unfold lapseC
  rw [a2]
  simp
theorem dropM_form (m : St) {h : Nat} (hh : h < 4) : EndM (fun o => decide (m 0 (7 + o) = nI h)) m (iF (dropM (nI h)) 16 0 (m, 0)).1 ∧ (iF (dropM (nI h)) 16 0 (m, 0)).2 = cF (fun o => decide (m 0 (7 + o) = nI h)) 16 0 := by
  obtain ⟨a1, a2⟩ := mEnd_loop (f := dropM (nI h)) (Q := fun s o => decide (s 0 (7 + o) = nI h)) (fun o x => by unfold dropM; simp) (fun s o o' h2 h3 hh => by
    rw [mEnd_at h3, if_neg (by omega), if_neg (by omega)]) 16 0 (m, 0) rfl
  refine ⟨EndM_congr (fun o _ => by simp) a1, ?_⟩
  rw [a2]
  simp
theorem ruleM_form (m : St) (b : Bool) : EndM (fun o => b && mLent m o) m (iF (ruleS b) 16 0 m) := by
  have key : ∀ (n i : Nat) (x : St), i + n = 16 → EndM (fun o => decide (i ≤ o) && (b && mLent x o)) x (iF (ruleS b) n i x) := by
    intro n
    induction n with
    | zero =>
      intro i x hi
      exact EndM_none (fun o ho => by rw [decide_eq_false (by omega)]; rfl)
    | succ n ih =>
      intro i x hi
      rw [iF_s]
      by_cases hq : (b && mLent x i) = true
      · rw [show ruleS b i x = mEnd i x from by unfold ruleS; rw [if_pos hq]]
        refine EndM_step (i := i) (by omega) (ih (i + 1) (mEnd i x) (by omega)) (fun o ho => ?_)
        by_cases ho2 : o = i
        · subst ho2
          simp at hq
          simp [hq]
        · rw [mLent_end ho (by omega) ho2]
          have e : (i ≤ o) ↔ (i + 1 ≤ o) := by omega
          simp [ho2, e]
      · rw [show ruleS b i x = x from by unfold ruleS; rw [if_neg hq]]
        refine EndM_congr (fun o ho => ?_) (ih (i + 1) x (by omega))
        by_cases ho2 : o = i
        · subst ho2
          have hq2 : (b && mLent x o) = false := by simpa using hq
          rw [hq2]
          simp
        · have e : (i ≤ o) ↔ (i + 1 ≤ o) := by omega
          simp [e]
  exact EndM_congr (fun o _ => by simp) (key 16 0 m rfl)
