/-! the family of bits, out of kit/laws/BITS.to-paste -/
def bt (x : Int32) (i : Nat) : Bool := x.toBitVec.getLsbD i
theorem b_ext {x y : Int32} (h : ∀ i, i < 32 → bt x i = bt y i) : x = y := Int32.toBitVec_inj.mp (BitVec.eq_of_getLsbD_eq (fun i hi => h i hi))
theorem b_or (x y : Int32) (i : Nat) : bt (x ||| y) i = (bt x i || bt y i) := by unfold bt; rw [Int32.toBitVec_or, BitVec.getLsbD_or]
theorem b_and (x y : Int32) (i : Nat) : bt (x &&& y) i = (bt x i && bt y i) := by unfold bt; rw [Int32.toBitVec_and, BitVec.getLsbD_and]
theorem b_xor (x y : Int32) (i : Nat) : bt (x ^^^ y) i = (bt x i ^^ bt y i) := by unfold bt; rw [Int32.toBitVec_xor, BitVec.getLsbD_xor]
theorem b_big {x : Int32} {i : Nat} (h : 32 ≤ i) : bt x i = false := BitVec.getLsbD_of_ge _ _ h
theorem b_255 (i : Nat) : bt 255 i = decide (i < 8) := by
  rcases Nat.lt_or_ge i 32 with h | h
  · exact (by decide +kernel : ∀ i, i < 32 → bt 255 i = decide (i < 8)) i h
  · rw [b_big h, decide_eq_false (by omega)]
theorem b_65535 (i : Nat) : bt 65535 i = decide (i < 16) := by
  rcases Nat.lt_or_ge i 32 with h | h
  · exact (by decide +kernel : ∀ i, i < 32 → bt 65535 i = decide (i < 16)) i h
  · rw [b_big h, decide_eq_false (by omega)]
theorem b_m1 : ∀ i, i < 32 → bt (-1) i = true := by decide +kernel
theorem b_0 (i : Nat) : bt 0 i = false := BitVec.getLsbD_zero
theorem s_l : ∀ n, n < 32 → ((nI n &&& 31).toBitVec.smod 32).toNat = n := by decide +kernel
theorem s_u : ∀ n, n < 32 → (((nI n).toUInt32 &&& Int32.toUInt32 31).toBitVec % 32).toNat = n := by decide +kernel
theorem b_shl (n : Nat) (hn : n < 32) (x : Int32) {i : Nat} (hi : i < 32) : bt (x <<< (nI n &&& 31)) i = (decide (n ≤ i) && bt x (i - n)) := by
  unfold bt
  rw [Int32.toBitVec_shiftLeft]
  show (x.toBitVec <<< ((nI n &&& 31).toBitVec.smod 32).toNat).getLsbD i = _
  rw [s_l n hn, BitVec.getLsbD_shiftLeft]
  rcases Nat.lt_or_ge i n with h | h
  · simp [h, Nat.not_le.mpr h]
  · simp [hi, h, Nat.not_lt.mpr h]
theorem b_ushr (n : Nat) (hn : n < 32) (x : Int32) (i : Nat) : bt ((x.toUInt32 >>> ((nI n).toUInt32 &&& Int32.toUInt32 31)).toInt32) i = bt x (n + i) := by
  show (x.toUInt32 >>> ((nI n).toUInt32 &&& Int32.toUInt32 31)).toBitVec.getLsbD i = x.toUInt32.toBitVec.getLsbD (n + i)
  rw [UInt32.toBitVec_shiftRight]
  show (x.toUInt32.toBitVec >>> (((nI n).toUInt32 &&& Int32.toUInt32 31).toBitVec % 32).toNat).getLsbD i = _
  rw [s_u n hn, BitVec.getLsbD_ushiftRight]
theorem b_sshr (n : Nat) (hn : n < 32) (x : Int32) {i : Nat} (hi : i < 32) : bt (x >>> (nI n &&& 31)) i = if n + i < 32 then bt x (n + i) else bt x 31 := by
  unfold bt
  rw [Int32.toBitVec_shiftRight]
  show (x.toBitVec.sshiftRight ((nI n &&& 31).toBitVec.smod 32).toNat).getLsbD i = _
  rw [s_l n hn, BitVec.getLsbD_sshiftRight, BitVec.msb_eq_getLsbD_last]
  simp [hi]
theorem nx_and (a b : Nat) : nI a &&& nI b = nI (a &&& b) := by
  apply Int32.toBitVec_inj.1
  show BitVec.ofNat 32 a &&& BitVec.ofNat 32 b = BitVec.ofNat 32 (a &&& b)
  apply BitVec.eq_of_getLsbD_eq
  intro i hi
  simp [hi]

theorem b_1 : ∀ i, i < 32 → bt 1 i = decide (i = 0) := by decide +kernel
theorem b_1s {i : Nat} (h : i < 32) (h2 : ¬ i = 0) : bt 1 i = false := by rw [b_1 i h, decide_eq_false h2]
/-- one bit, by >> or by >>> -/
theorem ush_bit (x : Int32) {q : Nat} (hq : q < 32) : ush x (nI q) &&& 1 = x >>> (nI q &&& 31) &&& 1 := by
  refine b_ext (fun i hi => ?_)
  rw [b_and, b_and]
  unfold ush
  rw [b_ushr q hq, b_sshr q hq x hi]
  by_cases h : i = 0
  · subst h
    rw [if_pos (by omega)]
  · rw [b_1s hi h, Bool.and_false, Bool.and_false]
theorem bit_01 (x : Int32) : x &&& 1 = 0 ∨ x &&& 1 = 1 := by
  by_cases h : bt x 0 = true
  · refine Or.inr (b_ext (fun i hi => ?_))
    rw [b_and]
    by_cases h2 : i = 0
    · subst h2
      rw [h]
      rfl
    · rw [b_1s hi h2, Bool.and_false]
  · refine Or.inl (b_ext (fun i hi => ?_))
    rw [b_and, b_0]
    by_cases h2 : i = 0
    · subst h2
      have : bt x 0 = false := by simpa using h
      rw [this]
      rfl
    · rw [b_1s hi h2, Bool.and_false]
theorem sent_bit (x : Int32) {q : Nat} (hq : q < 32) : decide (ush x (nI q) &&& 1 = 1) = !decide (x >>> (nI q &&& 31) &&& 1 = 0) := by
  rw [ush_bit x hq]
  rcases bit_01 (x >>> (nI q &&& 31)) with h | h
  · rw [h]
    decide
  · rw [h]
    decide
theorem sent_val (x : Int32) {q : Nat} (hq : q < 32) : bI (decide (ush x (nI q) &&& 1 = 1)) = x >>> (nI q &&& 31) &&& 1 := by
  rw [ush_bit x hq]
  rcases bit_01 (x >>> (nI q &&& 31)) with h | h
  · rw [h]
    decide
  · rw [h]
    decide
/-! the count of bits -/
theorem and_256 {a m : Nat} (ha : a < 256) (hm : m < 256) (A M : Nat) : (a + 256 * A) &&& (m + 256 * M) = (a &&& m) + 256 * (A &&& M) := by
  have h1 : ((a + 256 * A) &&& (m + 256 * M)) % 2 ^ 8 = a &&& m := by
    rw [Nat.and_mod_two_pow]
    congr 1
    · omega
    · omega
  have h2 : ((a + 256 * A) &&& (m + 256 * M)) / 2 ^ 8 = A &&& M := by
    rw [Nat.and_div_two_pow]
    congr 1
    · omega
    · omega
  omega
def pY (b : Nat) : Nat := b - (b / 2 &&& 85)
def pZ (b : Nat) : Nat := (pY b &&& 51) + (pY b / 4 &&& 51)
def pP (b : Nat) : Nat := (pZ b + pZ b / 16) % 16
def pS (b : Nat) : Nat := b % 2 + b / 2 % 2 + b / 4 % 2 + b / 8 % 2 + b / 16 % 2 + b / 32 % 2 + b / 64 % 2 + b / 128 % 2
theorem pY_1 : ∀ b, b < 256 → (b / 2 &&& 85) ≤ b := by decide +kernel
theorem pY_2 : ∀ b, b < 256 → ∀ c, c < 2 → (b / 2 + 128 * c) &&& 85 = b / 2 &&& 85 := by decide +kernel
theorem pY_3 : ∀ b, b < 256 → pY b < 256 := by decide +kernel
theorem pZ_2 : ∀ b, b < 256 → ∀ c, c < 4 → (b / 4 + 64 * c) &&& 51 = b / 4 &&& 51 := by decide +kernel
theorem pZ_3 : ∀ b, b < 256 → pZ b ≤ 68 ∧ pZ b % 16 ≤ 4 ∧ pZ b / 16 ≤ 4 := by decide +kernel
theorem pP_3 : ∀ b, b < 256 → pP b ≤ 8 ∧ pP b = pS b := by decide +kernel
def pcN (N : Nat) : Nat :=
  let x1 := N - (N / 2 &&& 1431655765)
  let x2 := (x1 &&& 858993459) + (x1 / 4 &&& 858993459)
  let x3 := (x2 + x2 / 16) &&& 252645135
  let x4 := x3 + x3 / 256
  let x5 := x4 + x4 / 65536
  x5 &&& 63
theorem and_m {a0 a1 a2 a3 m : Nat} (h0 : a0 < 256) (h1 : a1 < 256) (h2 : a2 < 256) (hm : m < 256) : (a0 + 256 * (a1 + 256 * (a2 + 256 * a3))) &&& (m + 256 * (m + 256 * (m + 256 * m))) = (a0 &&& m) + 256 * ((a1 &&& m) + 256 * ((a2 &&& m) + 256 * (a3 &&& m))) := by
  rw [and_256 h0 hm, and_256 h1 hm, and_256 h2 hm]
theorem pc_last {p0 p1 p2 p3 : Nat} (h0 : p0 ≤ 8) (h1 : p1 ≤ 8) (h2 : p2 ≤ 8) (h3 : p3 ≤ 8) : (p0 + 256 * (p1 + 256 * (p2 + 256 * p3)) + (p0 + 256 * (p1 + 256 * (p2 + 256 * p3))) / 256 + (p0 + 256 * (p1 + 256 * (p2 + 256 * p3)) + (p0 + 256 * (p1 + 256 * (p2 + 256 * p3))) / 256) / 65536) % 64 = p0 + p1 + p2 + p3 := by
  have e1 : (p0 + 256 * (p1 + 256 * (p2 + 256 * p3))) / 256 = p1 + 256 * (p2 + 256 * p3) := by omega
  rw [e1]
  have e2 : (p0 + 256 * (p1 + 256 * (p2 + 256 * p3)) + (p1 + 256 * (p2 + 256 * p3))) / 65536 = (p2 + p3) + 256 * p3 := by omega
  rw [e2]
  have e3 : p0 + 256 * (p1 + 256 * (p2 + 256 * p3)) + (p1 + 256 * (p2 + 256 * p3)) + ((p2 + p3) + 256 * p3) = (p0 + p1 + p2 + p3) + 64 * (4 * (p1 + p2 + p3) + 1024 * (p2 + p3) + 262144 * p3) := by omega
  rw [e3, Nat.add_mul_mod_self_left]
  omega
theorem pcN_eq {b0 b1 b2 b3 : Nat} (h0 : b0 < 256) (h1 : b1 < 256) (h2 : b2 < 256) (h3 : b3 < 256) : pcN (b0 + 256 * (b1 + 256 * (b2 + 256 * b3))) = pP b0 + pP b1 + pP b2 + pP b3 := by
  have s1 : (b0 + 256 * (b1 + 256 * (b2 + 256 * b3))) / 2 &&& 1431655765 = (b0 / 2 &&& 85) + 256 * ((b1 / 2 &&& 85) + 256 * ((b2 / 2 &&& 85) + 256 * (b3 / 2 &&& 85))) := by
    have e : (b0 + 256 * (b1 + 256 * (b2 + 256 * b3))) / 2 = (b0 / 2 + 128 * (b1 % 2)) + 256 * ((b1 / 2 + 128 * (b2 % 2)) + 256 * ((b2 / 2 + 128 * (b3 % 2)) + 256 * (b3 / 2))) := by omega
    rw [e]
    have := and_m (a0 := b0 / 2 + 128 * (b1 % 2)) (a1 := b1 / 2 + 128 * (b2 % 2)) (a2 := b2 / 2 + 128 * (b3 % 2)) (a3 := b3 / 2) (m := 85) (by omega) (by omega) (by omega) (by omega)
    rw [pY_2 b0 h0 _ (by omega), pY_2 b1 h1 _ (by omega), pY_2 b2 h2 _ (by omega)] at this
    exact this
  have y1 : (b0 + 256 * (b1 + 256 * (b2 + 256 * b3))) - ((b0 + 256 * (b1 + 256 * (b2 + 256 * b3))) / 2 &&& 1431655765) = pY b0 + 256 * (pY b1 + 256 * (pY b2 + 256 * pY b3)) := by
    rw [s1]
    have q0 := pY_1 b0 h0
    have q1 := pY_1 b1 h1
    have q2 := pY_1 b2 h2
    have q3 := pY_1 b3 h3
    unfold pY
    omega
  have p0 := pY_3 b0 h0
  have p1 := pY_3 b1 h1
  have p2 := pY_3 b2 h2
  have p3 := pY_3 b3 h3
  have s2 : (pY b0 + 256 * (pY b1 + 256 * (pY b2 + 256 * pY b3))) &&& 858993459 = (pY b0 &&& 51) + 256 * ((pY b1 &&& 51) + 256 * ((pY b2 &&& 51) + 256 * (pY b3 &&& 51))) := and_m (m := 51) p0 p1 p2 (by omega)
  have s3 : (pY b0 + 256 * (pY b1 + 256 * (pY b2 + 256 * pY b3))) / 4 &&& 858993459 = (pY b0 / 4 &&& 51) + 256 * ((pY b1 / 4 &&& 51) + 256 * ((pY b2 / 4 &&& 51) + 256 * (pY b3 / 4 &&& 51))) := by
    have e : (pY b0 + 256 * (pY b1 + 256 * (pY b2 + 256 * pY b3))) / 4 = (pY b0 / 4 + 64 * (pY b1 % 4)) + 256 * ((pY b1 / 4 + 64 * (pY b2 % 4)) + 256 * ((pY b2 / 4 + 64 * (pY b3 % 4)) + 256 * (pY b3 / 4))) := by omega
    rw [e]
    have := and_m (a0 := pY b0 / 4 + 64 * (pY b1 % 4)) (a1 := pY b1 / 4 + 64 * (pY b2 % 4)) (a2 := pY b2 / 4 + 64 * (pY b3 % 4)) (a3 := pY b3 / 4) (m := 51) (by omega) (by omega) (by omega) (by omega)
    rw [pZ_2 _ p0 _ (by omega), pZ_2 _ p1 _ (by omega), pZ_2 _ p2 _ (by omega)] at this
    exact this
  have z1 : ((pY b0 + 256 * (pY b1 + 256 * (pY b2 + 256 * pY b3))) &&& 858993459) + ((pY b0 + 256 * (pY b1 + 256 * (pY b2 + 256 * pY b3))) / 4 &&& 858993459) = pZ b0 + 256 * (pZ b1 + 256 * (pZ b2 + 256 * pZ b3)) := by
    rw [s2, s3]
    unfold pZ
    omega
  have r0 := pZ_3 b0 h0
  have r1 := pZ_3 b1 h1
  have r2 := pZ_3 b2 h2
  have r3 := pZ_3 b3 h3
  have s4 : (pZ b0 + 256 * (pZ b1 + 256 * (pZ b2 + 256 * pZ b3))) + (pZ b0 + 256 * (pZ b1 + 256 * (pZ b2 + 256 * pZ b3))) / 16 &&& 252645135 = pP b0 + 256 * (pP b1 + 256 * (pP b2 + 256 * pP b3)) := by
    have e : (pZ b0 + 256 * (pZ b1 + 256 * (pZ b2 + 256 * pZ b3))) + (pZ b0 + 256 * (pZ b1 + 256 * (pZ b2 + 256 * pZ b3))) / 16 = (pZ b0 + pZ b0 / 16 + 16 * (pZ b1 % 16)) + 256 * ((pZ b1 + pZ b1 / 16 + 16 * (pZ b2 % 16)) + 256 * ((pZ b2 + pZ b2 / 16 + 16 * (pZ b3 % 16)) + 256 * (pZ b3 + pZ b3 / 16))) := by omega
    rw [e]
    have := and_m (a0 := pZ b0 + pZ b0 / 16 + 16 * (pZ b1 % 16)) (a1 := pZ b1 + pZ b1 / 16 + 16 * (pZ b2 % 16)) (a2 := pZ b2 + pZ b2 / 16 + 16 * (pZ b3 % 16)) (a3 := pZ b3 + pZ b3 / 16) (m := 15) (by omega) (by omega) (by omega) (by omega)
    have k : ∀ z, z &&& 15 = z % 16 := fun z => Nat.and_two_pow_sub_one_eq_mod z 4
    rw [k, k, k, k] at this
    have e2 : (15 + 256 * (15 + 256 * (15 + 256 * 15)) : Nat) = 252645135 := by decide
    rw [e2] at this
    rw [this, Nat.add_mul_mod_self_left, Nat.add_mul_mod_self_left, Nat.add_mul_mod_self_left]
    rfl
  have t0 := pP_3 b0 h0
  have t1 := pP_3 b1 h1
  have t2 := pP_3 b2 h2
  have t3 := pP_3 b3 h3
  have k6 : ∀ z, z &&& 63 = z % 64 := fun z => Nat.and_two_pow_sub_one_eq_mod z 6
  unfold pcN
  simp only [y1, z1, s4, k6]
  exact pc_last t0.1 t1.1 t2.1 t3.1
theorem wb_of32 (x : Int32) : ∃ n, n < 2 ^ 32 ∧ x = nI n := ⟨x.toBitVec.toNat, x.toBitVec.isLt, Int32.toBitVec_inj.mp (by show _ = BitVec.ofNat 32 _; simp)⟩
theorem ush_N {n : Nat} (k : Nat) {s : Int32} (h : n < 2 ^ 32) (hs : ((s.toUInt32 &&& Int32.toUInt32 31).toBitVec % 32).toNat = k) : ush (nI n) s = nI (n / 2 ^ k) := pk_ushrN h s k hs
theorem and_N {a b : Nat} {c : Int32} (h : c = nI b) : nI a &&& c = nI (a &&& b) := by rw [h, nx_and]
theorem bcC_N {N : Nat} (hN : N < 2 ^ 32) : bcC (nI N) = nI (pcN N) := by
  unfold bcC pcN
  simp only
  have e1 : nI N - (ush (nI N) 1 &&& 1431655765) = nI (N - (N / 2 &&& 1431655765)) := by
    rw [ush_N 1 hN (by decide), and_N (b := 1431655765) (c := 1431655765) rfl, pk_sub]
    exact Nat.le_trans Nat.and_le_left (Nat.div_le_self _ _)
  rw [e1]
  have l1 : N - (N / 2 &&& 1431655765) < 2 ^ 32 := by omega
  generalize N - (N / 2 &&& 1431655765) = x1 at l1
  have e2 : (nI x1 &&& 858993459) + (ush (nI x1) 2 &&& 858993459) = nI ((x1 &&& 858993459) + (x1 / 4 &&& 858993459)) := by
    rw [ush_N 2 l1 (by decide), and_N (b := 858993459) (c := 858993459) rfl, and_N (b := 858993459) (c := 858993459) rfl, nI_add]
  rw [e2]
  have l2 : (x1 &&& 858993459) + (x1 / 4 &&& 858993459) < 2 ^ 31 := by
    have p1 : (x1 &&& 858993459) ≤ 858993459 := Nat.and_le_right
    have p2 : (x1 / 4 &&& 858993459) ≤ 858993459 := Nat.and_le_right
    omega
  generalize (x1 &&& 858993459) + (x1 / 4 &&& 858993459) = x2 at l2
  have e3 : (nI x2 + ush (nI x2) 4) &&& 252645135 = nI ((x2 + x2 / 16) &&& 252645135) := by
    rw [ush_N 4 (by omega) (by decide), nI_add, and_N (b := 252645135) (c := 252645135) rfl]
  rw [e3]
  have l3 : ((x2 + x2 / 16) &&& 252645135) < 2 ^ 30 := by
    have p1 : ((x2 + x2 / 16) &&& 252645135) ≤ 252645135 := Nat.and_le_right
    omega
  generalize ((x2 + x2 / 16) &&& 252645135) = x3 at l3
  have e4 : nI x3 + ush (nI x3) 8 = nI (x3 + x3 / 256) := by
    rw [ush_N 8 (by omega) (by decide), nI_add]
  rw [e4]
  have l4 : x3 + x3 / 256 < 2 ^ 31 := by omega
  generalize x3 + x3 / 256 = x4 at l4
  have e5 : nI x4 + ush (nI x4) 16 = nI (x4 + x4 / 65536) := by
    rw [ush_N 16 (by omega) (by decide), nI_add]
  rw [e5, and_N (b := 63) (c := 63) rfl]
theorem bit_N {N q : Nat} (hN : N < 2 ^ 32) (hq : q < 32) : nI N >>> (nI q &&& 31) &&& 1 = nI (N / 2 ^ q % 2) := by
  rw [← ush_bit _ hq, ush_N q hN (s_u q hq), and_N (b := 1) (c := 1) rfl, Nat.and_one_is_mod]
def tS (N : Nat) : Nat → Nat → Nat
  | 0, _ => 0
  | n + 1, i => N / 2 ^ i % 2 + tS N n (i + 1)
theorem bitSum_N {N : Nat} (hN : N < 2 ^ 32) : ∀ (n i a : Nat), i + n ≤ 32 → sumF (fun q => nI N >>> (nI q &&& 31) &&& 1) n i (nI a) = nI (a + tS N n i)
  | 0, _, _, _ => rfl
  | n + 1, i, a, h => by
    unfold sumF tS
    simp only [bit_N hN (show i < 32 by omega), nI_add]
    rw [bitSum_N hN n (i + 1) (a + N / 2 ^ i % 2) (by omega), Nat.add_assoc]
theorem tS_8 (N k : Nat) : tS N 8 k = N / 2 ^ k % 2 + (N / 2 ^ (k + 1) % 2 + (N / 2 ^ (k + 2) % 2 + (N / 2 ^ (k + 3) % 2 + (N / 2 ^ (k + 4) % 2 + (N / 2 ^ (k + 5) % 2 + (N / 2 ^ (k + 6) % 2 + (N / 2 ^ (k + 7) % 2 + 0))))))) := rfl
theorem tS_split (N : Nat) (k : Nat) : ∀ (n i : Nat), tS N (n + k) i = tS N n i + tS N k (i + n)
  | 0, i => by simp [tS]
  | n + 1, i => by
    rw [show n + 1 + k = (n + k) + 1 by omega]
    unfold tS
    rw [tS_split N k n (i + 1), show i + 1 + n = i + (n + 1) by omega]
    cases k <;> simp [tS] <;> omega
theorem tS_b (N k b : Nat) (h : ∀ i, i < 8 → N / 2 ^ (k + i) % 2 = b / 2 ^ i % 2) : tS N 8 k = pS b := by
  rw [tS_8]
  have h0 := h 0 (by omega)
  have h1 := h 1 (by omega)
  have h2 := h 2 (by omega)
  have h3 := h 3 (by omega)
  have h4 := h 4 (by omega)
  have h5 := h 5 (by omega)
  have h6 := h 6 (by omega)
  have h7 := h 7 (by omega)
  simp only [Nat.add_zero] at h0
  rw [h0, h1, h2, h3, h4, h5, h6, h7]
  unfold pS
  simp only [Nat.pow_zero, Nat.div_one, Nat.reducePow]
  omega
theorem bits_lo {b M i : Nat} (hb : b < 256) (hi : i < 8) : (b + 256 * M) / 2 ^ i % 2 = b / 2 ^ i % 2 := by
  match i, hi with
  | 0, _ => simp only [Nat.reducePow]; omega
  | 1, _ => simp only [Nat.reducePow]; omega
  | 2, _ => simp only [Nat.reducePow]; omega
  | 3, _ => simp only [Nat.reducePow]; omega
  | 4, _ => simp only [Nat.reducePow]; omega
  | 5, _ => simp only [Nat.reducePow]; omega
  | 6, _ => simp only [Nat.reducePow]; omega
  | 7, _ => simp only [Nat.reducePow]; omega
theorem bits_hi {b M k i : Nat} (hb : b < 256) : (b + 256 * M) / 2 ^ (8 + k + i) % 2 = M / 2 ^ (k + i) % 2 := by
  rw [show 8 + k + i = 8 + (k + i) by omega, Nat.pow_add, ← Nat.div_div_eq_div_mul, show (b + 256 * M) / 2 ^ 8 = M by simp only [Nat.reducePow]; omega]
theorem popc {N : Nat} (hN : N < 2 ^ 32) : tS N 32 0 = pcN N := by
  obtain ⟨b0, b1, b2, b3, h0, h1, h2, h3, e⟩ : ∃ b0 b1 b2 b3, b0 < 256 ∧ b1 < 256 ∧ b2 < 256 ∧ b3 < 256 ∧ N = b0 + 256 * (b1 + 256 * (b2 + 256 * b3)) := ⟨N % 256, N / 256 % 256, N / 65536 % 256, N / 16777216, by omega, by omega, by omega, by omega, by omega⟩
  subst e
  rw [pcN_eq h0 h1 h2 h3, (pP_3 b0 h0).2, (pP_3 b1 h1).2, (pP_3 b2 h2).2, (pP_3 b3 h3).2]
  rw [show 32 = 8 + 24 by rfl, tS_split, show 24 = 8 + 16 by rfl, tS_split, show 16 = 8 + 8 by rfl, tS_split]
  rw [tS_b _ 0 b0 (fun i hi => by rw [Nat.zero_add]; exact bits_lo h0 hi)]
  rw [tS_b _ (0 + 8) b1 (fun i hi => by
    have := bits_hi (b := b0) (M := b1 + 256 * (b2 + 256 * b3)) (k := 0) (i := i) h0
    rw [show 0 + 8 + i = 8 + 0 + i by omega, this, Nat.zero_add]
    exact bits_lo h1 hi)]
  rw [tS_b _ (0 + 8 + 8) b2 (fun i hi => by
    have a1 := bits_hi (b := b0) (M := b1 + 256 * (b2 + 256 * b3)) (k := 8) (i := i) h0
    have a2 := bits_hi (b := b1) (M := b2 + 256 * b3) (k := 0) (i := i) h1
    rw [show 0 + 8 + 8 + i = 8 + 8 + i by omega, a1, show 8 + i = 8 + 0 + i by omega, a2, Nat.zero_add]
    exact bits_lo h2 hi)]
  rw [tS_b _ (0 + 8 + 8 + 8) b3 (fun i hi => by
    have a1 := bits_hi (b := b0) (M := b1 + 256 * (b2 + 256 * b3)) (k := 16) (i := i) h0
    have a2 := bits_hi (b := b1) (M := b2 + 256 * b3) (k := 8) (i := i) h1
    have a3 := bits_hi (b := b2) (M := b3) (k := 0) (i := i) h2
    rw [show 0 + 8 + 8 + 8 + i = 8 + 16 + i by omega, a1, show 16 + i = 8 + 8 + i by omega, a2, show 8 + i = 8 + 0 + i by omega, a3, Nat.zero_add])]
  omega
theorem bc_eq (x : Int32) : bcC x = bitSum x 0 := by
  obtain ⟨N, hN, rfl⟩ := wb_of32 x
  unfold bitSum
  have := bitSum_N hN 32 0 0 (by omega)
  rw [nI_0] at this
  rw [bcC_N hN, this, Nat.zero_add, popc hN]
theorem sumF_acc (f : Nat → Int32) : ∀ (n i : Nat) (x : Int32), sumF f n i x = x + sumF f n i 0
  | 0, _, x => by unfold sumF; rw [Int32.add_zero]
  | n + 1, i, x => by
    unfold sumF
    rw [sumF_acc f n (i + 1) (x + f i), sumF_acc f n (i + 1) (0 + f i), Int32.zero_add, Int32.add_assoc]
