def rTime (st : St) (m : St) (t : Nat) : Prop := st 11 0 = nI t ∧ m 0 6 = nI t ∧ t ≤ 100000
def rRule (st : St) (m : St) : Prop := (∀ i, i < 6 → st 0 i = m 0 i) ∧ (∃ a, a ≤ 2 ∧ m 0 0 = nI a) ∧ (∀ i, 3 ≤ i → i < 6 → ∃ z, 1 ≤ z ∧ z ≤ 60 ∧ m 0 i = nI z)
def rBind (st : St) (m : St) (t : Nat) : Prop := ∀ o, o < 16 → st 2 o = m 0 (71 + o) ∧ (∃ z, z < 3 ∧ m 0 (71 + o) = nI z) ∧ st 3 o = m 0 (87 + o) ∧ (∃ u, u ≤ t ∧ m 0 (87 + o) = nI u) ∧ st 4 o = m 0 (39 + o) ∧ st 5 o = m 0 (55 + o) ∧ ∀ r, r < 5 → st 6 (o * 5 + r) = m 0 (103 + 5 * o + r)
def rHost (st : St) (m : St) : Prop := ∀ o, o < 16 → (st 1 o = -6 ∧ m 0 (7 + o) = -6) ∨ ∃ h p, h < 4 ∧ p < 32 ∧ st 1 o = nI (h * 32 + p) ∧ m 0 (7 + o) = nI h ∧ m 0 (23 + o) = nI p
def rMap (m : St) : Prop := ∀ o, o < 16 → ¬ m 0 (7 + o) = -6 → (m 0 0 = 0 → m 0 (39 + o) = -6 ∧ m 0 (55 + o) = -6) ∧ (m 0 0 = 1 → (∃ r, r < 5 ∧ m 0 (39 + o) = nI r) ∧ m 0 (55 + o) = -6) ∧ (m 0 0 = 2 → (∃ r, r < 5 ∧ m 0 (39 + o) = nI r) ∧ ∃ q, q < 32 ∧ m 0 (55 + o) = nI q)
def rUniq (st : St) (m : St) : Prop := ∀ o o', o < 16 → o' < 16 → ¬ m 0 (7 + o) = -6 → st 1 o = st 1 o' → m 0 (39 + o) = m 0 (39 + o') → m 0 (55 + o) = m 0 (55 + o') → o = o'
def rBlock (m : St) : Prop := ∀ o o', o < 16 → o' < 16 → o / 4 = o' / 4 → ¬ m 0 (7 + o) = -6 → ¬ m 0 (7 + o') = -6 → m 0 (7 + o) = m 0 (7 + o')
def rKnown (st : St) (m : St) (t : Nat) : Prop := ∀ k, k < 32 → ∃ y, m 0 (183 + k) = nI y ∧ y ≤ t + 5 ∧ ((y ≤ t ∧ st 7 k = -6) ∨ (t < y ∧ 5 ≤ y ∧ st 8 k = nI (y - 5) ∧ ∃ o, o < 16 ∧ st 7 k = nI o ∧ m 0 (215 + k) = nI o ∧ ¬ m 0 (7 + o) = -6))
def rHeld (st : St) (m : St) (t : Nat) : Prop := (∀ v, v < 256 → ∃ y, m 0 (247 + v) = nI y ∧ y ≤ t + 5 ∧ (t < y → ∃ p, p < 6 ∧ st 9 p = nI v)) ∧ (∀ p, p < 6 → st 9 p = -6 ∨ ∃ v y, v < 256 ∧ ¬ v % 8 = 0 ∧ st 9 p = nI v ∧ m 0 (247 + v) = nI y ∧ t < y ∧ 5 ≤ y ∧ y ≤ t + 5 ∧ st 10 p = nI (y - 5)) ∧ (∀ p p', p < 6 → p' < 6 → st 9 p = st 9 p' → ¬ st 9 p = -6 → p = p')
def rNL (st : St) : Prop := ∀ o, o < 16 → lentC st o = true → 0 < leftC st o
def RelB (st : St) (m : St) (t : Nat) : Prop := rTime st m t ∧ rRule st m ∧ rBind st m t ∧ rHost st m ∧ rMap m ∧ rUniq st m ∧ rBlock m ∧ rKnown st m t ∧ rHeld st m t
theorem nI_neg {a : Nat} (h : a < 2 ^ 31) : ¬ nI a < 0 := nI_pos h
theorem m6_lt : (-6 : Int32) < 0 := by decide
theorem lent_eq {st m : St} (hH : rHost st m) {o : Nat} (ho : o < 16) : lentC st o = mLent m o := by
  unfold lentC mLent
  rcases hH o ho with ⟨h1, h2⟩ | ⟨h, p, hh, hp, h1, h2, h3⟩
  · rw [h1, h2, decide_eq_true rfl, decide_eq_true m6_lt]
  · rw [h1, h2, decide_eq_false (nI_m6 (by omega)), decide_eq_false (nI_neg (by omega))]
theorem lent_ne {st m : St} (hH : rHost st m) {o : Nat} (ho : o < 16) : lentC st o = true ↔ ¬ m 0 (7 + o) = -6 := by
  unfold lentC
  rcases hH o ho with ⟨h1, h2⟩ | ⟨h, p, hh, hp, h1, h2, h3⟩
  · rw [h1, h2]
    simp
  · rw [h1, h2, decide_eq_false (nI_m6 (by omega))]
    simp [nI_m6 (show h < 2 ^ 31 by omega)]
theorem mLent_ne {st m : St} (hH : rHost st m) {o : Nat} (ho : o < 16) : mLent m o = true ↔ ¬ m 0 (7 + o) = -6 := by rw [← lent_eq hH ho]; exact lent_ne hH ho
theorem host_eq {st m : St} (hH : rHost st m) {o : Nat} (ho : o < 16) : hostC st o = m 0 (7 + o) := by
  unfold hostC lentC
  rcases hH o ho with ⟨h1, h2⟩ | ⟨h, p, hh, hp, h1, h2, h3⟩
  · rw [h1, h2]
    rfl
  · rw [h1, h2, decide_eq_false (nI_m6 (by omega))]
    show nI (h * 32 + p) / nI 32 = nI h
    rw [pk_div (by omega) (by decide) (by decide)]
    congr 1
    omega
theorem holder_eq {st m : St} (hH : rHost st m) (hB : rBlock m) {b : Nat} (hb : b < 4) : holderC st b = blockM m b := by
  have e : 4 * b = b * 4 := Nat.mul_comm 4 b
  have key : ∀ i j, i < 4 → j < 4 → mLent m (b * 4 + i) = true → mLent m (b * 4 + j) = true → m 0 (7 + (b * 4 + i)) = m 0 (7 + (b * 4 + j)) := by
    intro i j hi hj h1 h2
    exact hB _ _ (by omega) (by omega) (by omega) ((mLent_ne hH (by omega)).mp h1) ((mLent_ne hH (by omega)).mp h2)
  have k01 := key 0 1 (by omega) (by omega)
  have k02 := key 0 2 (by omega) (by omega)
  have k03 := key 0 3 (by omega) (by omega)
  have k12 := key 1 2 (by omega) (by omega)
  have k13 := key 1 3 (by omega) (by omega)
  have k23 := key 2 3 (by omega) (by omega)
  have hn : ∀ o, o < 16 → (!decide (hostC st o = -6)) = mLent m o := by
    intro o ho
    have q := mLent_ne hH ho
    rw [host_eq hH ho]
    cases hm : mLent m o with
    | true => rw [decide_eq_false (q.mp hm)]; rfl
    | false => rw [decide_eq_true (Classical.byContradiction (fun c => by have := q.mpr c; rw [hm] at this; cases this))]; rfl
  have l0 := hn (b * 4 + 0) (by omega)
  have l1 := hn (b * 4 + 1) (by omega)
  have l2 := hn (b * 4 + 2) (by omega)
  have l3 := hn (b * 4 + 3) (by omega)
  have g0 := host_eq hH (o := b * 4 + 0) (by omega)
  have g1 := host_eq hH (o := b * 4 + 1) (by omega)
  have g2 := host_eq hH (o := b * 4 + 2) (by omega)
  have g3 := host_eq hH (o := b * 4 + 3) (by omega)
  unfold holderC blockM
  simp only [fF, blkF, e, l0, l1, l2, l3, Nat.zero_add, Nat.add_assoc, Nat.reduceAdd]
  simp only [Nat.add_zero] at *
  cases c0 : mLent m (b * 4) <;> cases c1 : mLent m (b * 4 + 1) <;> cases c2 : mLent m (b * 4 + 2) <;> cases c3 : mLent m (b * 4 + 3) <;> simp_all
theorem blkF_none {m : St} : ∀ {n i : Nat} {x : Int32}, (∀ j, i ≤ j → j < i + n → mLent m j = false) → blkF m n i x = x
  | 0, _, _, _ => rfl
  | n + 1, i, x, h => by
    unfold blkF
    rw [h i (Nat.le_refl _) (by omega)]
    exact blkF_none (fun j h1 h2 => h j (by omega) (by omega))
theorem blkF_some {m : St} : ∀ {n i : Nat} {x : Int32}, blkF m n i x = x ∨ ∃ j, i ≤ j ∧ j < i + n ∧ mLent m j = true ∧ blkF m n i x = m 0 (7 + j)
  | 0, _, _ => Or.inl rfl
  | n + 1, i, x => by
    unfold blkF
    rcases blkF_some (m := m) (n := n) (i := i + 1) (x := if mLent m i = true then m 0 (7 + i) else x) with h | ⟨j, h1, h2, h3, h4⟩
    · by_cases hl : mLent m i = true
      · rw [if_pos hl] at h
        exact Or.inr ⟨i, Nat.le_refl _, by omega, hl, by rw [if_pos hl]; exact h⟩
      · rw [if_neg hl] at h
        exact Or.inl (by rw [if_neg hl]; exact h)
    · exact Or.inr ⟨j, by omega, by omega, h3, h4⟩
/-- the host of a block is that of each of its bindings -/
theorem block_host {st m : St} (hH : rHost st m) (hB : rBlock m) {o : Nat} (ho : o < 16) (hl : mLent m o = true) : blockM m (o / 4) = m 0 (7 + o) := by
  unfold blockM
  have key : ∀ (n i : Nat) (x : Int32), i ≤ o → o < i + n → i + n ≤ 16 → 4 * (o / 4) ≤ i → i + n ≤ 4 * (o / 4) + 4 → blkF m n i x = m 0 (7 + o) := by
    intro n
    induction n with
    | zero => intro i x h1 h2; omega
    | succ n ih =>
      intro i x h1 h2 h3 h4 h5
      unfold blkF
      by_cases hio : i = o
      · subst hio
        rw [if_pos hl]
        rcases blkF_some (m := m) (n := n) (i := i + 1) (x := m 0 (7 + i)) with h | ⟨j, a1, a2, a3, a4⟩
        · exact h
        · rw [a4]
          exact hB j i (by omega) ho (by omega) ((mLent_ne hH (by omega)).mp a3) ((mLent_ne hH ho).mp hl)
      · exact ih (i + 1) _ (by omega) (by omega) (by omega) (by omega) (by omega)
  exact key 4 (4 * (o / 4)) (-6) (by omega) (by omega) (by omega) (Nat.le_refl _) (Nat.le_refl _)
theorem block_none {st m : St} (hH : rHost st m) (hB : rBlock m) {o : Nat} (ho : o < 16) (h : blockM m (o / 4) = -6) : mLent m o = false := by
  cases hl : mLent m o with
  | false => rfl
  | true =>
    have := block_host hH hB ho hl
    rw [h] at this
    exact absurd this.symm ((mLent_ne hH ho).mp hl)
theorem fit_eq {st m : St} (hH : rHost st m) (hR : rRule st m) {o port : Nat} (ho : o < 16) : fitC st o port = fitM m o port := by
  unfold fitC fitM
  rw [lent_eq hH ho, hR.1 2 (by omega)]
theorem fF_congr {p q : Nat → Bool} : ∀ {n i : Nat}, (∀ j, i ≤ j → j < i + n → p j = q j) → fF p n i = fF q n i
  | 0, _, _ => rfl
  | n + 1, i, h => by
    unfold fF
    rw [h i (Nat.le_refl _) (by omega), fF_congr (n := n) (i := i + 1) (fun j h1 h2 => h j (by omega) (by omega))]
theorem fF_none {p : Nat → Bool} : ∀ {n i : Nat}, fF p n i = none → ∀ j, i ≤ j → j < i + n → p j = false
  | 0, i, _, j, h1, h2 => by omega
  | n + 1, i, h, j, h1, h2 => by
    unfold fF at h
    by_cases hp : p i = true
    · rw [if_pos hp] at h
      cases h
    · rw [if_neg hp] at h
      by_cases hj : j = i
      · subst hj
        simpa using hp
      · exact fF_none h j (by omega) (by omega)
theorem fF_split (p : Nat → Bool) (k : Nat) : ∀ (n i : Nat), fF p (n + k) i = match fF p n i with
    | some j => some j
    | none => fF p k (i + n)
  | 0, i => by simp [fF]
  | n + 1, i => by
    rw [show n + 1 + k = (n + k) + 1 by omega]
    have e1 : fF p (n + k + 1) i = if p i then some i else fF p (n + k) (i + 1) := rfl
    have e2 : fF p (n + 1) i = if p i then some i else fF p n (i + 1) := rfl
    rw [e1, e2]
    by_cases hp : p i = true
    · rw [if_pos hp, if_pos hp]
    · rw [if_neg hp, if_neg hp, fF_split p k n (i + 1), show i + 1 + n = i + (n + 1) by omega]
theorem fF_shift (p : Nat → Bool) (c : Nat) : ∀ (n i : Nat), fF p n (c + i) = (fF (fun j => p (c + j)) n i).map (fun j => c + j)
  | 0, i => rfl
  | n + 1, i => by
    unfold fF
    by_cases hp : p (c + i) = true
    · rw [if_pos hp, if_pos hp]
      rfl
    · rw [if_neg hp, if_neg hp, Nat.add_assoc]
      exact fF_shift p c n (i + 1)
theorem fF_false {n i : Nat} : fF (fun _ => false) n i = none := by
  induction n generalizing i with
  | zero => rfl
  | succ n ih => unfold fF; simp [ih]
theorem least_eq {st m : St} (hH : rHost st m) (hB : rBlock m) (hR : rRule st m) (h : Int32) (port : Nat) : lfhF st h port = leastM m h port := by
  unfold lfhF leastM
  refine fF_congr (fun j _ hj => ?_)
  unfold lfhP leastP
  rw [holder_eq hH hB (by omega), fit_eq hH hR (by omega)]
theorem choose_eq {st m : St} (hH : rHost st m) (hB : rBlock m) (hR : rRule st m) (h : Int32) {port : Nat} (hp : port < 32) : chooseC st h port = chosenM m h port := by
  unfold chooseC chosenM
  rw [least_eq hH hB hR, least_eq hH hB hR, holder_eq hH hB (by omega), fit_eq hH hR (by omega), Bool.and_comm]
  all_goals
    split
    · rfl
    · cases leastM m h port <;> rfl
theorem lF_none {p : Nat → Bool} : ∀ {n i : Nat} {o : Option Nat}, lF p n i o = none → o = none ∧ ∀ j, i ≤ j → j < i + n → p j = false
  | 0, i, o, h => ⟨h, fun j h1 h2 => by omega⟩
  | n + 1, i, o, h => by
    unfold lF at h
    obtain ⟨h1, h2⟩ := lF_none h
    by_cases hp : p i = true
    · rw [if_pos hp] at h1
      cases h1
    · rw [if_neg hp] at h1
      refine ⟨h1, fun j a b => ?_⟩
      by_cases hj : j = i
      · subst hj
        simpa using hp
      · exact h2 j (by omega) (by omega)
theorem lF_keep {p : Nat → Bool} : ∀ {n i : Nat} {o : Option Nat}, (∀ j, i ≤ j → j < i + n → p j = false) → lF p n i o = o
  | 0, _, _, _ => rfl
  | n + 1, i, o, h => by
    unfold lF
    rw [h i (Nat.le_refl _) (by omega)]
    exact lF_keep (fun j h1 h2 => h j (by omega) (by omega))
theorem lF_fF {p : Nat → Bool} : ∀ {n i : Nat}, (∀ j j', i ≤ j → j < i + n → i ≤ j' → j' < i + n → p j = true → p j' = true → j = j') → lF p n i none = fF p n i
  | 0, _, _ => rfl
  | n + 1, i, h => by
    unfold lF fF
    by_cases hp : p i = true
    · rw [if_pos hp, if_pos hp]
      refine lF_keep (fun j h1 h2 => ?_)
      cases hj : p j with
      | false => rfl
      | true =>
        have := h i j (Nat.le_refl _) (by omega) (by omega) (by omega) hp hj
        omega
    · rw [if_neg hp, if_neg hp]
      exact lF_fF (fun j j' a b c d => h j j' (by omega) (by omega) (by omega) (by omega))
theorem map_cases {m : St} {st : St} (hR : rRule st m) : m 0 0 = 0 ∨ m 0 0 = 1 ∨ m 0 0 = 2 := by
  obtain ⟨a, ha, e⟩ := hR.2.1
  rw [e]
  match a, ha with
  | 0, _ => exact Or.inl rfl
  | 1, _ => exact Or.inr (Or.inl rfl)
  | 2, _ => exact Or.inr (Or.inr rfl)
theorem bindP_eq {st m : St} {t : Nat} (R : RelB st m t) {h p r rp o : Nat} (hh : h < 4) (hp : p < 32) (hr : r < 5) (hrp : rp < 32) (ho : o < 16) : seekP st (nI (h * 32 + p)) (nI r) (nI rp) o = bindP m (nI h) (nI p) (nI r) (nI rp) o := by
  obtain ⟨hT, hR, hBd, hH, hM, hU, hB, hKn, hHe⟩ := R
  obtain ⟨-, -, -, -, e4, e5, -⟩ := hBd o ho
  unfold seekP bindP isForC
  rw [e4, e5]
  rcases hH o ho with ⟨h1, h2⟩ | ⟨h', p', hh', hp', h1, h2, h3⟩
  · rw [h1, h2, decide_eq_false (show ¬ (-6 : Int32) = nI (h * 32 + p) from fun q => nI_m6 (by omega) q.symm), decide_eq_false (show ¬ (-6 : Int32) = nI h from fun q => nI_m6 (by omega) q.symm)]
    rfl
  · have hne : ¬ m 0 (7 + o) = -6 := by rw [h2]; exact nI_m6 (by omega)
    rw [h1, h2, h3]
    have e1 : decide (nI (h' * 32 + p') = nI (h * 32 + p)) = (decide (nI h' = nI h) && decide (nI p' = nI p)) := by
      rw [Bool.eq_iff_iff]
      simp only [Bool.and_eq_true, decide_eq_true_eq, nI_eq (show h' * 32 + p' < 2 ^ 31 by omega) (show h * 32 + p < 2 ^ 31 by omega), nI_eq (show h' < 2 ^ 31 by omega) (show h < 2 ^ 31 by omega), nI_eq (show p' < 2 ^ 31 by omega) (show p < 2 ^ 31 by omega)]
      omega
    rw [e1]
    obtain ⟨m0, m1, m2⟩ := hM o ho hne
    rcases map_cases hR with z | z | z
    · obtain ⟨a1, a2⟩ := m0 z
      rw [a1, a2, z]
      simp
    · obtain ⟨⟨q, hq, a1⟩, a2⟩ := m1 z
      rw [a1, a2, z]
      have n6 : ¬ nI q = -6 := nI_m6 (by omega)
      simp [n6]
    · obtain ⟨⟨q, hq, a1⟩, q2, hq2, a2⟩ := m2 z
      rw [a1, a2, z]
      have n6 : ¬ nI q = -6 := nI_m6 (by omega)
      have n7 : ¬ nI q2 = -6 := nI_m6 (by omega)
      simp [n6, n7, Bool.and_assoc]
theorem seek_eq {st m : St} {t : Nat} (R : RelB st m t) {h p r rp : Nat} (hh : h < 4) (hp : p < 32) (hr : r < 5) (hrp : rp < 32) : seekO st (nI (h * 32 + p)) (nI r) (nI rp) = bindO m (nI h) (nI p) (nI r) (nI rp) := by
  unfold seekO bindO
  rw [lF_fF]
  · exact fF_congr (fun j _ hj => bindP_eq R hh hp hr hrp (by omega))
  · intro j j' _ hj _ hj' h1 h2
    have R0 := R
    obtain ⟨hT, hR, hBd, hH, hM, hU, hB, hKn, hHe⟩ := R
    have s1 := h1
    have s2 := h2
    rw [← bindP_eq R0 hh hp hr hrp (by omega)] at s1 s2
    simp only [seekP, Bool.and_eq_true, decide_eq_true_eq] at s1 s2
    have n1 : ¬ m 0 (7 + j) = -6 := by
      rw [← lent_ne hH (by omega)]
      unfold lentC
      rw [s1.1, decide_eq_false (nI_m6 (by omega))]
      rfl
    have n2 : ¬ m 0 (7 + j') = -6 := by
      rw [← lent_ne hH (by omega)]
      unfold lentC
      rw [s2.1, decide_eq_false (nI_m6 (by omega))]
      rfl
    simp only [bindP, Bool.and_eq_true, Bool.or_eq_true, decide_eq_true_eq] at h1 h2
    refine hU j j' (by omega) (by omega) n1 (s1.1.trans s2.1.symm) ?_ ?_
    · obtain ⟨m0, m1, m2⟩ := hM j (by omega) n1
      obtain ⟨k0, k1, k2⟩ := hM j' (by omega) n2
      rcases map_cases hR with z | z | z
      · rw [(m0 z).1, (k0 z).1]
      · have a := h1.1.2
        have b := h2.1.2
        rw [z] at a b
        rcases a with a | a
        · exact absurd a (by decide)
        · rcases b with b | b
          · exact absurd b (by decide)
          · rw [a, b]
      · have a := h1.1.2
        have b := h2.1.2
        rw [z] at a b
        rcases a with a | a
        · exact absurd a (by decide)
        · rcases b with b | b
          · exact absurd b (by decide)
          · rw [a, b]
    · obtain ⟨m0, m1, m2⟩ := hM j (by omega) n1
      obtain ⟨k0, k1, k2⟩ := hM j' (by omega) n2
      rcases map_cases hR with z | z | z
      · rw [(m0 z).2, (k0 z).2]
      · rw [(m1 z).2, (k1 z).2]
      · have a := h1.2
        have b := h2.2
        rw [z] at a b
        rcases a with a | a
        · exact absurd a (by decide)
        · rcases b with b | b
          · exact absurd b (by decide)
          · rw [a, b]
