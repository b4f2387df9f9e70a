theorem nI_0s {a t : Nat} (ha : a < 2 ^ 30) (ht : t < 2 ^ 30) : (0 < nI a - nI t) ↔ t < a := by
  rw [Int32.lt_iff_toInt_lt, pk_sub_toInt ha ht, Int32.toInt_zero]
  omega
theorem life_eq {st m : St} {t : Nat} (hR : rRule st m) (hBd : rBind st m t) {o : Nat} (ho : o < 16) : ∃ z, 1 ≤ z ∧ z ≤ 60 ∧ lifeC st o = nI z ∧ m 0 (3 + cl (m 0 (71 + o))) = nI z := by
  obtain ⟨e2, ⟨z, hz, ez⟩, -⟩ := hBd o ho
  obtain ⟨y, h1, h2, h3⟩ := hR.2.2 (3 + z) (by omega) (by omega)
  refine ⟨y, h1, h2, ?_, ?_⟩
  · unfold lifeC
    rw [e2, ez]
    match z, hz, h3 with
    | 0, _, h3 => rw [if_pos (show nI 0 = 0 from rfl), hR.1 3 (by omega)]; exact h3
    | 1, _, h3 => rw [if_neg (by decide), if_pos (show nI 1 = 1 from rfl), hR.1 4 (by omega)]; exact h3
    | 2, _, h3 => rw [if_neg (by decide), if_neg (by decide), hR.1 5 (by omega)]; exact h3
  · rw [ez, cl_nI (by omega)]
    exact h3
/-- when a binding is over: as the class has it, as the reference has it -/
theorem left_form {st m : St} {t : Nat} (hT : rTime st m t) (hR : rRule st m) (hBd : rBind st m t) {o : Nat} (ho : o < 16) : ∃ u z, u ≤ t ∧ 1 ≤ z ∧ z ≤ 60 ∧ m 0 (87 + o) = nI u ∧ leftC st o = nI (u + z) - nI t ∧ endOfM m o = nI (u + z) ∧ (0 < leftC st o ↔ t < u + z) := by
  obtain ⟨z, h1, h2, h3, h4⟩ := life_eq hR hBd ho
  obtain ⟨-, -, e3, ⟨u, hu, eu⟩, -⟩ := hBd o ho
  obtain ⟨t1, t2, t3⟩ := hT
  have a : leftC st o = nI (u + z) - nI t := by
    unfold leftC
    rw [e3, eu, h3, t1, nI_add]
  refine ⟨u, z, hu, h1, h2, eu, a, ?_, ?_⟩
  · unfold endOfM
    rw [eu, h4, nI_add]
  · rw [a]
    exact nI_0s (by omega) (by omega)
theorem lap_eq {st m : St} {t : Nat} (hT : rTime st m t) (hR : rRule st m) (hBd : rBind st m t) (hH : rHost st m) {o : Nat} (ho : o < 16) : lapB st o = lapM m o := by
  obtain ⟨u, z, hu, h1, h2, eu, a, b, c⟩ := left_form hT hR hBd ho
  unfold lapB lapM
  rw [lent_eq hH ho, b, hT.2.1]
  congr 2
  rw [Bool.eq_iff_iff]
  simp only [decide_eq_true_eq]
  rw [c, nI_ltI (by have := hT.2.2; omega) (by have := hT.2.2; omega)]
theorem left_eq {st m : St} {t : Nat} (hT : rTime st m t) (hR : rRule st m) (hBd : rBind st m t) {o : Nat} (ho : o < 16) : leftC st o = endOfM m o - m 0 6 := by
  obtain ⟨u, z, hu, h1, h2, eu, a, b, c⟩ := left_form hT hR hBd ho
  rw [a, b, hT.2.1]
theorem isOk_rel {st m : St} {t : Nat} (R : RelB st m t) : isOk m := fun o ho => by
  obtain ⟨hT, hR, hBd, -⟩ := R
  exact (hBd o ho).2.1
theorem reason_eq {st m : St} {t : Nat} (R : RelB st m t) {r rp o : Nat} (hr : r < 5) (hrp : rp < 32) (ho : o < 16) : reasonC st r rp o = whyM m r rp o := by
  obtain ⟨hT, hR, hBd, hH, -⟩ := R
  obtain ⟨-, -, -, -, -, -, e6⟩ := hBd o ho
  unfold reasonC whyM isAnyC isSentC
  rw [lent_eq hH ho, hR.1 1 (by omega), e6 r hr, sent_bit _ hrp]
  by_cases c0 : mLent m o = false
  · rw [if_pos c0, if_pos c0]
  · rw [if_neg c0, if_neg c0]
    by_cases c1 : m 0 1 = 1
    · have c2 : ¬ m 0 1 = 2 := by rw [c1]; decide
      by_cases c3 : m 0 (103 + 5 * o + r) = 0
      · rw [if_pos ⟨c1, by simp [c3]⟩, if_pos (Or.inl ⟨c1, c3⟩)]
      · rw [if_neg (fun q => c3 (by simpa using q.2)), if_neg (fun q => c2 q.1), if_neg (fun q => q.elim (fun y => c3 y.2) (fun y => c2 y.1))]
    · rw [if_neg (fun q => c1 q.1)]
      by_cases c2 : m 0 1 = 2 ∧ m 0 (103 + 5 * o + r) >>> (nI rp &&& 31) &&& 1 = 0
      · rw [if_pos ⟨c2.1, by simp [c2.2]⟩, if_pos (Or.inr c2)]
      · rw [if_neg (fun q => c2 ⟨q.1, by simpa using q.2⟩), if_neg (fun q => q.elim (fun y => c1 y.1) (fun y => c2 y))]
theorem inside_eq {st m : St} (hH : rHost st m) {o : Nat} (ho : o < 16) (hl : mLent m o = true) : st 1 o = insideM m o := by
  unfold insideM
  rcases hH o ho with ⟨h1, h2⟩ | ⟨h, p, hh, hp, h1, h2, h3⟩
  · exact absurd h2 ((mLent_ne hH ho).mp hl)
  · rw [h1, h2, h3]
    show nI (h * 32 + p) = nI 32 * nI h + nI p
    rw [pk_mul, nI_add]
    congr 2
    omega
theorem sentF_eq {st m : St} {t : Nat} (hBd : rBind st m t) {o : Nat} (ho : o < 16) : ∀ (n i : Nat) (x : Int32), i + n ≤ 5 → sumF (fun r => bcC (st 6 (o * 5 + r))) n i x = sentF m o n i x
  | 0, _, _, _ => rfl
  | n + 1, i, x, h => by
    obtain ⟨-, -, -, -, -, -, e6⟩ := hBd o ho
    unfold sumF sentF
    rw [e6 i (by omega), bc_eq]
    have : x + bitSum (m 0 (103 + 5 * o + i)) 0 = bitSum (m 0 (103 + 5 * o + i)) x := by
      unfold bitSum
      exact (sumF_acc _ 32 0 x).symm
    rw [this]
    exact sentF_eq hBd ho n (i + 1) _ (by omega)
theorem tell_eq {st m : St} {t : Nat} (R : RelB st m t) {o : Nat} (ho : o < 16) (hl : mLent m o = true) (what : Int32) : tellB st o what = toldM m o what := by
  obtain ⟨hT, hR, hBd, hH, -⟩ := R
  obtain ⟨e2, -, -, -, e4, e5, -⟩ := hBd o ho
  unfold tellB toldM
  rw [inside_eq hH ho hl, e2, left_eq hT hR hBd ho, e4, e5]
  have : countSentC st o = sentManyM m o := sentF_eq hBd ho 5 0 0 (by omega)
  rw [this]
theorem orF_eq {st m : St} (hH : rHost st m) (hB : rBlock m) (h : Int32) : ∀ (n i : Nat) (x : Int32), i + n ≤ 4 → orF (fun b => decide (holderC st b = h)) n i x = orM m h n i x
  | 0, _, _, _ => rfl
  | n + 1, i, x, hn => by
    unfold orF orM
    have e : (if decide (holderC st i = h) = true then x ||| 1 <<< (nI i &&& 31) else x) = x ||| (if blockM m i = h then 1 <<< (nI i &&& 31) else 0) := by
      rw [holder_eq hH hB (by omega)]
      by_cases c : blockM m i = h
      · rw [if_pos (by simp [c]), if_pos c]
      · rw [if_neg (by simp [c]), if_neg c]
        refine b_ext (fun j _ => ?_)
        rw [b_or, b_0, Bool.or_false]
    rw [e]
    exact orF_eq hH hB h n (i + 1) _ (by omega)
theorem blocks_eq {st m : St} (hH : rHost st m) (hB : rBlock m) (h : Int32) : blocksC st h = blocksM m h := orF_eq hH hB h 4 0 0 (by omega)
theorem free_eq (m : St) (h : Int32) : bcC (blocksM m h) = bitsM (blocksM m h) := by
  unfold blocksM
  simp only [orM, Nat.zero_add, Nat.reduceAdd]
  by_cases c0 : blockM m 0 = h <;> by_cases c1 : blockM m 1 = h <;> by_cases c2 : blockM m 2 = h <;> by_cases c3 : blockM m 3 = h <;> simp only [c0, c1, c2, c3, if_true, if_false] <;> decide +kernel
theorem bindMany_eq {st m : St} (hH : rHost st m) (h : Int32) : countHostC st h = bindManyM m h := cF_congr (fun j _ hj => by rw [host_eq hH (by omega)])
theorem room_eq {st m : St} (hH : rHost st m) (hB : rBlock m) (hR : rRule st m) (h : Int32) (port : Nat) : countFitC st h port = roomM m h port := cF_congr (fun j _ hj => by rw [holder_eq hH hB (by omega), fit_eq hH hR (by omega)])
theorem lentMany_eq {st m : St} (hH : rHost st m) : countAllC st = lentManyM m := cF_congr (fun j _ hj => lent_eq hH (by omega))
theorem known_eq {st m : St} {t : Nat} (hT : rTime st m t) (hKn : rKnown st m t) {k : Nat} (hk : k < 32) : knownC st k = knownM m k := by
  obtain ⟨y, h1, h2, h3⟩ := hKn k hk
  unfold knownC knownM
  rw [h1, hT.2.1]
  have hb := hT.2.2
  rcases h3 with ⟨a, b⟩ | ⟨a, -, -, o, ho, b, -⟩
  · rw [b, decide_eq_true rfl, decide_eq_true (nI_le a (by omega))]
  · rw [b, decide_eq_false (nI_m6 (by omega)), decide_eq_false (nI_ge a (by omega))]
theorem knownMany_eq {st m : St} {t : Nat} (hT : rTime st m t) (hKn : rKnown st m t) : countKnownC st = knownManyM m := cF_congr (fun j _ hj => known_eq hT hKn (by omega))
/-! as many places as there are things in them -/
theorem cF_zero {q : Nat → Bool} : ∀ {n i : Nat}, (∀ j, i ≤ j → j < i + n → q j = false) → cF q n i = 0
  | 0, _, _ => rfl
  | n + 1, i, h => by
    unfold cF
    rw [h i (Nat.le_refl _) (by omega), cF_zero (fun j h1 h2 => h j (by omega) (by omega))]
    rfl
theorem cF_one {c : Nat} : ∀ {n i : Nat}, i ≤ c → c < i + n → cF (fun v => decide (v = c)) n i = 1
  | 0, i, h1, h2 => by omega
  | n + 1, i, h1, h2 => by
    unfold cF
    by_cases h : i = c
    · subst h
      rw [cF_zero (fun j a b => by simp; omega)]
      simp
    · rw [cF_one (n := n) (i := i + 1) (by omega) (by omega)]
      simp [h]
theorem cF_places (P : Nat → Bool) (val : Nat → Nat) (N : Nat) : ∀ (n : Nat), (∀ p, p < n → P p = true → val p < N) → (∀ p p', p < n → p' < n → P p = true → P p' = true → val p = val p' → p = p') → ∀ q : Nat → Bool, (∀ v, v < N → (q v = true ↔ ∃ p, p < n ∧ P p = true ∧ val p = v)) → cF q N 0 = cF P n 0
  | 0, _, _, q, hq => by
    rw [cF_zero (fun j _ hj => ?_)]
    · rfl
    · cases h : q j with
      | false => rfl
      | true =>
        obtain ⟨p, hp, -⟩ := (hq j (by omega)).mp h
        omega
  | n + 1, hv, hi, q, hq => by
    have sp : cF P (n + 1) 0 = cF P n 0 + (if P n then 1 else 0) := by
      have key : ∀ (k i : Nat), cF P (k + 1) i = cF P k i + (if P (i + k) then 1 else 0) := by
        intro k
        induction k with
        | zero => intro i; simp [cF]
        | succ k ih =>
          intro i
          rw [show cF P (k + 1 + 1) i = (if P i then 1 else 0) + cF P (k + 1) (i + 1) from rfl, ih (i + 1), show cF P (k + 1) i = (if P i then 1 else 0) + cF P k (i + 1) from rfl, show i + 1 + k = i + (k + 1) by omega]
          omega
      rw [key n 0, Nat.zero_add]
    have ih := cF_places P val N n (fun p h1 h2 => hv p (by omega) h2) (fun p p' h1 h2 => hi p p' (by omega) (by omega))
    rw [sp]
    by_cases hp : P n = true
    · rw [if_pos hp]
      have hq0 : cF (fun v => q v && !decide (v = val n)) N 0 = cF P n 0 := by
        refine ih _ (fun v hvN => ?_)
        simp only [Bool.and_eq_true, Bool.not_eq_true', decide_eq_false_iff_not]
        constructor
        · intro ⟨a, b⟩
          obtain ⟨p, h1, h2, h3⟩ := (hq v hvN).mp a
          refine ⟨p, ?_, h2, h3⟩
          rcases Nat.lt_or_ge p n with z | z
          · exact z
          · have : p = n := by omega
            subst this
            exact absurd h3.symm b
        · intro ⟨p, h1, h2, h3⟩
          refine ⟨(hq v hvN).mpr ⟨p, by omega, h2, h3⟩, fun z => ?_⟩
          have := hi p n (by omega) (by omega) h2 hp (h3.trans z)
          omega
      rw [← hq0, ← cF_one (c := val n) (n := N) (i := 0) (by omega) (by have := hv n (by omega) hp; omega)]
      symm
      refine cF_add (fun j _ hj => ?_)
      by_cases hj2 : j = val n
      · have : q j = true := (hq j (by omega)).mpr ⟨n, by omega, hp, hj2.symm⟩
        rw [this, hj2]
        simp
      · simp [hj2]
    · rw [if_neg hp]
      refine ih q (fun v hvN => ?_)
      rw [hq v hvN]
      constructor
      · intro ⟨p, h1, h2, h3⟩
        refine ⟨p, ?_, h2, h3⟩
        rcases Nat.lt_or_ge p n with z | z
        · exact z
        · have : p = n := by omega
          subst this
          exact absurd h2 hp
      · intro ⟨p, h1, h2, h3⟩
        exact ⟨p, by omega, h2, h3⟩
theorem held_iff {st m : St} {t : Nat} (hT : rTime st m t) (hHe : rHeld st m t) {v : Nat} (hv : v < 256) : heldM m v = true ↔ ∃ p, p < 6 ∧ st 9 p = nI v := by
  obtain ⟨y, h1, h2, h3⟩ := hHe.1 v hv
  have hb := hT.2.2
  unfold heldM
  rw [h1, hT.2.1]
  constructor
  · intro q
    refine h3 ?_
    rcases Nat.lt_or_ge t y with z | z
    · exact z
    · rw [decide_eq_true (nI_le z (by omega))] at q
      cases q
  · intro ⟨p, hp, e⟩
    rcases hHe.2.1 p hp with z | ⟨v', y', hv', -, e1, e2, e3, -, e4, -⟩
    · rw [e] at z
      exact absurd z (nI_m6 (by omega))
    · rw [e] at e1
      have := nI_inj (by omega) (by omega) e1
      subst this
      rw [h1] at e2
      have := nI_inj (by omega) (by omega) e2
      subst this
      rw [decide_eq_false (nI_ge e3 (by omega))]
      rfl
/-- the thing in a place -/
def hv (st : St) (p : Nat) : Nat := cl (st 9 p)
theorem hv_of {st m : St} {t : Nat} (hHe : rHeld st m t) {p : Nat} (hp : p < 6) (h : ¬ st 9 p = -6) : hv st p < 256 ∧ st 9 p = nI (hv st p) ∧ ¬ hv st p % 8 = 0 := by
  rcases hHe.2.1 p hp with z | ⟨v, y, h1, h2, h3, -⟩
  · exact absurd z h
  · unfold hv
    rw [h3, cl_nI (by omega)]
    exact ⟨h1, rfl, h2⟩
theorem heldMany_eq {st m : St} {t : Nat} (hT : rTime st m t) (hHe : rHeld st m t) : countHeldC st = heldManyM m := by
  unfold countHeldC heldManyM
  symm
  refine cF_places (fun i => !decide (st 9 i = -6)) (hv st) 256 6 (fun p hp h => ?_) (fun p p' hp hp' h h' e => ?_) _ (fun v hv' => ?_)
  · exact (hv_of hHe hp (by simpa using h)).1
  · have a := (hv_of hHe hp (by simpa using h)).2.1
    have b := (hv_of hHe hp' (by simpa using h')).2.1
    exact hHe.2.2 p p' hp hp' (by rw [a, b, e]) (by simpa using h)
  · rw [held_iff hT hHe hv']
    constructor
    · intro ⟨p, hp, e⟩
      have n6 : ¬ st 9 p = -6 := by rw [e]; exact nI_m6 (by omega)
      refine ⟨p, hp, by simpa using n6, ?_⟩
      unfold hv
      rw [e, cl_nI (by omega)]
    · intro ⟨p, hp, h, e⟩
      refine ⟨p, hp, ?_⟩
      rw [← e]
      exact (hv_of hHe hp (by simpa using h)).2.1
theorem soon_eq {st m : St} {t : Nat} (R : RelB st m t) (hN : rNL st) : ltF st 16 0 (-6) = soonF m 16 0 (-6) := by
  obtain ⟨hT, hR, hBd, hH, -⟩ := R
  have key : ∀ (n i : Nat) (x : Int32), i + n = 16 → (x = -6 ∨ 0 < x) → ltF st n i x = soonF m n i x := by
    intro n
    induction n with
    | zero => intro i x _ _; rfl
    | succ n ih =>
      intro i x hi hx
      unfold ltF soonF
      have hxe : decide (x = -6) = decide (x < 0) := by
        rcases hx with q | q
        · rw [q]
          decide
        · have n1 : ¬ x = -6 := fun z => by rw [z] at q; exact absurd q (by decide)
          have n2 : ¬ x < 0 := fun z => by rw [Int32.lt_iff_toInt_lt] at z q; omega
          rw [decide_eq_false n1, decide_eq_false n2]
      have e := left_eq hT hR hBd (o := i) (by omega)
      rw [lent_eq hH (show i < 16 by omega), hxe, e]
      refine ih (i + 1) _ (by omega) ?_
      split
      · rename_i hc
        refine Or.inr ?_
        rw [← e]
        refine hN i (by omega) ?_
        rw [lent_eq hH (show i < 16 by omega)]
        simp only [Bool.and_eq_true] at hc
        exact hc.1
      · exact hx
  exact key 16 0 (-6) rfl (Or.inl rfl)
/-! what is told -/
theorem rgN {x : Int32} {n : Nat} (h : ¬ rg x n = false) (hn : n < 2 ^ 31) : ∃ j, j < n ∧ x = nI j := rg_nat hn (by cases z : rg x n; exact absurd z h; rfl)
theorem q_of {st m : St} {t : Nat} (R : RelB st m t) (o what : Int32) : xOf st o what = mOf m o what := by
  unfold xOf mOf
  rw [frB_rg what (k := 5) (hi := 5) (by decide) rfl]
  by_cases h : rg o 16 = false
  · rw [if_pos h, if_pos h]
  · rw [if_neg h, if_neg h]
    obtain ⟨j, hj, rfl⟩ := rgN h (by decide)
    rw [cl_nI (by omega), lent_eq R.2.2.2.1 hj]
    by_cases hl : mLent m j = true
    · rw [if_pos hl, if_pos hl, tell_eq R hj hl]
    · rw [if_neg hl, if_neg hl]
theorem q_sent {st m : St} {t : Nat} (R : RelB st m t) (o r rp : Int32) : xSent st o r rp = mSent m o r rp := by
  unfold xSent mSent
  by_cases h : rg o 16 = false
  · rw [if_pos h, if_pos h]
  · rw [if_neg h, if_neg h]
    by_cases g : rgR r rp = false
    · rw [if_pos g, if_pos g]
    · rw [if_neg g, if_neg g]
      obtain ⟨j, hj, rfl⟩ := rgN h (by decide)
      obtain ⟨a, b, ha, hb, -, rfl, rfl⟩ := rgR_nat (by simpa using g)
      rw [cl_nI (by omega), cl_nI (by omega), cl_nI (by omega), lent_eq R.2.2.2.1 hj]
      unfold isSentC
      rw [sent_val _ hb, (R.2.2.1 j hj).2.2.2.2.2.2 a ha]
theorem q_find {st m : St} {t : Nat} (R : RelB st m t) (h pt r rp : Int32) : xFind st h pt r rp = mFind m h pt r rp := by
  unfold xFind mFind
  by_cases g1 : rg h 4 = false
  · rw [if_pos g1, if_pos g1]
  · rw [if_neg g1, if_neg g1]
    by_cases g2 : rg pt 32 = false ∨ rgR r rp = false
    · rw [if_pos g2, if_pos g2]
    · rw [if_neg g2, if_neg g2]
      obtain ⟨j, hj, rfl⟩ := rgN g1 (by decide)
      obtain ⟨q, hq, rfl⟩ := rg_nat (x := pt) (n := 32) (by decide) (by cases z : rg pt 32; exact absurd (Or.inl z) g2; rfl)
      obtain ⟨a, b, ha, hb, -, rfl, rfl⟩ := rgR_nat (r := r) (p := rp) (by cases z : rgR r rp; exact absurd (Or.inr z) g2; rfl)
      rw [cl_nI (by omega), cl_nI (by omega), seek_eq R hj hq ha hb]
theorem q_next {st m : St} {t : Nat} (R : RelB st m t) (h pt : Int32) : xNext st h pt = mNext m h pt := by
  unfold xNext mNext
  by_cases g1 : rg h 4 = false
  · rw [if_pos g1, if_pos g1]
  · rw [if_neg g1, if_neg g1]
    by_cases g2 : rg pt 32 = false
    · rw [if_pos g2, if_pos g2]
    · rw [if_neg g2, if_neg g2]
      obtain ⟨q, hq, rfl⟩ := rgN g2 (by decide)
      rw [cl_nI (by omega), choose_eq R.2.2.2.1 R.2.2.2.2.2.2.1 R.2.1 h hq]
theorem q_why {st m : St} {t : Nat} (R : RelB st m t) (r rp o : Int32) : xWhy st r rp o = mWhy m r rp o := by
  unfold xWhy mWhy
  by_cases g1 : rgR r rp = false
  · rw [if_pos g1, if_pos g1]
  · rw [if_neg g1, if_neg g1]
    by_cases g2 : rg o 16 = false
    · rw [if_pos g2, if_pos g2]
    · rw [if_neg g2, if_neg g2]
      obtain ⟨j, hj, rfl⟩ := rgN g2 (by decide)
      obtain ⟨a, b, ha, hb, -, rfl, rfl⟩ := rgR_nat (by simpa using g1)
      rw [cl_nI (by omega), cl_nI (by omega), cl_nI (by omega), reason_eq R ha hb hj]
theorem q_block {st m : St} {t : Nat} (R : RelB st m t) (b : Int32) : xBlock st b = mBlock m b := by
  unfold xBlock mBlock
  rw [frB_rg b (k := 3) (hi := 3) (by decide) rfl]
  by_cases g1 : rg b 4 = false
  · rw [if_pos g1, if_pos g1]
  · rw [if_neg g1, if_neg g1]
    obtain ⟨j, hj, rfl⟩ := rgN g1 (by decide)
    rw [cl_nI (by omega), holder_eq R.2.2.2.1 R.2.2.2.2.2.2.1 hj]
theorem q_host {st m : St} {t : Nat} (R : RelB st m t) (h what : Int32) : xHost st h what = mHost m h what := by
  unfold xHost mHost tellH
  rw [bindMany_eq R.2.2.2.1, blocks_eq R.2.2.2.1 R.2.2.2.2.2.2.1, room_eq R.2.2.2.1 R.2.2.2.2.2.2.1 R.2.1, room_eq R.2.2.2.1 R.2.2.2.2.2.2.1 R.2.1]
  by_cases g1 : rg h 4 = false
  · rw [if_pos g1, if_pos g1]
  · rw [if_neg g1, if_neg g1]
    by_cases g2 : rg what 4 = false
    · rw [if_pos g2]
      have n0 : ¬ what = 0 := fun z => by rw [z] at g2; exact absurd g2 (by decide)
      have n1 : ¬ what = 1 := fun z => by rw [z] at g2; exact absurd g2 (by decide)
      have n2 : ¬ what = 2 := fun z => by rw [z] at g2; exact absurd g2 (by decide)
      have n3 : ¬ what = 3 := fun z => by rw [z] at g2; exact absurd g2 (by decide)
      rw [if_neg n0, if_neg n1, if_neg n2, if_neg n3]
    · rw [if_neg g2]
      obtain ⟨j, hj, rfl⟩ := rgN g2 (by decide)
      by_cases c0 : nI j = 0
      · rw [if_pos c0, if_pos c0]
      · by_cases c1 : nI j = 1
        · rw [if_neg c0, if_neg c0, if_pos c1, if_pos c1]
        · by_cases c2 : nI j = 2
          · rw [if_neg c0, if_neg c0, if_neg c1, if_neg c1, if_pos c2, if_pos c2]
          · have c3 : nI j = 3 := by
              match j, hj, c0, c1, c2 with
              | 0, _, c0, _, _ => exact absurd rfl c0
              | 1, _, _, c1, _ => exact absurd rfl c1
              | 2, _, _, _, c2 => exact absurd rfl c2
              | 3, _, _, _, _ => rfl
            rw [if_neg c0, if_neg c0, if_neg c1, if_neg c1, if_neg c2, if_neg c2, if_pos c3]
theorem q_count {st m : St} {t : Nat} (R : RelB st m t) {kp : Nat → Int32} (h0 : kp 0 = m 2 0) (h1 : kp 1 = m 2 1) (what : Int32) : xCount st kp what = mCount m what := by
  obtain ⟨hT, hR, hBd, hH, hM, hU, hB, hKn, hHe⟩ := R
  unfold xCount mCount ruleAtC
  rw [lentMany_eq hH, hT.1, blocks_eq hH hB, free_eq, heldMany_eq hT hHe, knownMany_eq hT hKn, h0, h1, ← hT.2.1]
  by_cases c : frB what 10 15 = true
  · rw [if_pos c, if_pos c]
    obtain ⟨j, j1, j2, rfl⟩ := frB_nat (lo := 10) (hi := 15) 10 15 (by decide) (by decide) rfl rfl c
    have ne : ∀ k : Nat, k < 10 → ¬ nI j = nI k := fun k hk z => by have := nI_inj (by omega) (by omega) z; omega
    rw [if_neg (show ¬ nI j = 0 from ne 0 (by omega)), if_neg (show ¬ nI j = 1 from ne 1 (by omega)), if_neg (show ¬ nI j = 2 from ne 2 (by omega)), if_neg (show ¬ nI j = 3 from ne 3 (by omega)), if_neg (show ¬ nI j = 4 from ne 4 (by omega)), if_neg (show ¬ nI j = 5 from ne 5 (by omega)), cl_nI (by omega), hR.1 (j - 10) (by omega)]
  · rw [if_neg c, if_neg c]
