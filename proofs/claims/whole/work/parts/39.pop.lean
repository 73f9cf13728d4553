/-! how many bits -/
theorem and_byte {a m : Nat} (b m' : Nat) (ha : a < 256) (hm : m < 256) : (256 * b + a) &&& (256 * m' + m) = 256 * (b &&& m') + (a &&& m) := by
  have hq : (a &&& m) < 2 ^ 8 := Nat.and_lt_two_pow a (by omega)
  apply Nat.eq_of_testBit_eq
  intro i
  have e1 := Nat.testBit_two_pow_mul_add b (i := 8) (b := a) (by omega) i
  have e2 := Nat.testBit_two_pow_mul_add m' (i := 8) (b := m) (by omega) i
  have e3 := Nat.testBit_two_pow_mul_add (b &&& m') (i := 8) (b := a &&& m) hq i
  rw [Nat.testBit_and]
  rw [show (256 : Nat) = 2 ^ 8 by rfl, e1, e2, e3]
  split <;> rw [Nat.testBit_and]
def w4 (a b c d : Nat) : Nat := 256 * (256 * (256 * d + c) + b) + a
theorem and_w4 {a b c d m : Nat} (ha : a < 256) (hb : b < 256) (hc : c < 256) (hm : m < 256) : w4 a b c d &&& w4 m m m m = w4 (a &&& m) (b &&& m) (c &&& m) (d &&& m) := by
  unfold w4
  rw [and_byte _ _ ha hm, and_byte _ _ hb hm, and_byte _ _ hc hm]
def F1 (a : Nat) : Nat := a - ((a / 2) &&& 85)
def F2 (a : Nat) : Nat := (a &&& 51) + ((a / 4) &&& 51)
def P8 (a : Nat) : Nat := a % 2 + a / 2 % 2 + a / 4 % 2 + a / 8 % 2 + a / 16 % 2 + a / 32 % 2 + a / 64 % 2 + a / 128 % 2
def pop4 (n : Nat) : Nat := P8 (n % 256) + P8 (n / 256 % 256) + P8 (n / 65536 % 256) + P8 (n / 16777216 % 256)
set_option maxRecDepth 100000 in
theorem t1 : ∀ a : Fin 256, ∀ k : Fin 2, ((a.val / 2 + 128 * k.val) &&& 85) = ((a.val / 2) &&& 85) ∧ ((a.val / 2) &&& 85) ≤ a.val ∧ F1 a.val < 256 := by decide +kernel
set_option maxRecDepth 100000 in
theorem t2 : ∀ a : Fin 256, ∀ k : Fin 4, ((a.val / 4 + 64 * k.val) &&& 51) = ((a.val / 4) &&& 51) := by decide +kernel
set_option maxRecDepth 100000 in
theorem t3 : ∀ a : Fin 256, F2 (F1 a.val) % 16 ≤ 4 ∧ F2 (F1 a.val) / 16 ≤ 4 ∧ F2 (F1 a.val) % 16 + F2 (F1 a.val) / 16 = P8 a.val := by decide +kernel
theorem popW (n x1 x2 x3 x4 x5 x6 : Nat) (hn : n < 4294967296) (h1 : x1 = n - ((n / 2) &&& 1431655765)) (h2 : x2 = (x1 &&& 858993459) + ((x1 / 4) &&& 858993459)) (h3 : x3 = ((x2 + x2 / 16) % 4294967296) &&& 252645135) (h4 : x4 = x3 + x3 / 256) (h5 : x5 = x4 + x4 / 65536) (h6 : x6 = x5 &&& 63) : ((n / 2) &&& 1431655765) ≤ n ∧ x2 < 4294967296 ∧ x4 < 4294967296 ∧ x5 < 4294967296 ∧ x6 = pop4 n ∧ pop4 n ≤ 32 := by
  obtain ⟨a, ha⟩ : ∃ a, a = n % 256 := ⟨_, rfl⟩
  obtain ⟨b, hb⟩ : ∃ b, b = n / 256 % 256 := ⟨_, rfl⟩
  obtain ⟨c, hc⟩ : ∃ c, c = n / 65536 % 256 := ⟨_, rfl⟩
  obtain ⟨d, hd⟩ : ∃ d, d = n / 16777216 % 256 := ⟨_, rfl⟩
  have hp : pop4 n = P8 a + P8 b + P8 c + P8 d := by unfold pop4; rw [ha, hb, hc, hd]
  have e1 : n / 2 = w4 (a / 2 + 128 * (b % 2)) (b / 2 + 128 * (c % 2)) (c / 2 + 128 * (d % 2)) (d / 2) := by unfold w4; omega
  have hn4 : n = w4 a b c d := by unfold w4; omega
  have q1 := fun (x y : Nat) (hx : x < 256) => t1 ⟨x, hx⟩ ⟨y % 2, by omega⟩
  have a1 := q1 a b (by omega)
  have b1 := q1 b c (by omega)
  have c1 := q1 c d (by omega)
  have d1 := q1 d 0 (by omega)
  simp only at a1 b1 c1 d1
  have e2 : (n / 2) &&& 1431655765 = w4 (a / 2 &&& 85) (b / 2 &&& 85) (c / 2 &&& 85) (d / 2 &&& 85) := by
    rw [e1, show (1431655765 : Nat) = w4 85 85 85 85 by rfl, and_w4 (by omega) (by omega) (by omega) (by omega), a1.1, b1.1, c1.1]
  obtain ⟨A, hA⟩ : ∃ A, A = F1 a := ⟨_, rfl⟩
  obtain ⟨B, hB⟩ : ∃ B, B = F1 b := ⟨_, rfl⟩
  obtain ⟨C, hC⟩ : ∃ C, C = F1 c := ⟨_, rfl⟩
  obtain ⟨D, hD⟩ : ∃ D, D = F1 d := ⟨_, rfl⟩
  rw [← hA] at a1; rw [← hB] at b1; rw [← hC] at c1; rw [← hD] at d1
  have f1 : x1 = w4 A B C D := by
    unfold F1 at hA hB hC hD
    rw [h1, e2, hn4]; unfold w4; omega
  have g1 : (n / 2) &&& 1431655765 ≤ n := by rw [e2, hn4]; unfold w4; omega
  have e3 : x1 / 4 = w4 (A / 4 + 64 * (B % 4)) (B / 4 + 64 * (C % 4)) (C / 4 + 64 * (D % 4)) (D / 4) := by rw [f1]; unfold w4; omega
  have q2 := fun (x y : Nat) (hx : x < 256) => t2 ⟨x, hx⟩ ⟨y % 4, by omega⟩
  have a2 := q2 A B (by omega)
  have b2 := q2 B C (by omega)
  have c2 := q2 C D (by omega)
  simp only at a2 b2 c2
  have e4 : (x1 / 4) &&& 858993459 = w4 (A / 4 &&& 51) (B / 4 &&& 51) (C / 4 &&& 51) (D / 4 &&& 51) := by
    rw [e3, show (858993459 : Nat) = w4 51 51 51 51 by rfl, and_w4 (by omega) (by omega) (by omega) (by omega), a2, b2, c2]
  have e5 : x1 &&& 858993459 = w4 (A &&& 51) (B &&& 51) (C &&& 51) (D &&& 51) := by
    rw [f1, show (858993459 : Nat) = w4 51 51 51 51 by rfl, and_w4 (by omega) (by omega) (by omega) (by omega)]
  have a3 := t3 ⟨a, by omega⟩
  have b3 := t3 ⟨b, by omega⟩
  have c3 := t3 ⟨c, by omega⟩
  have d3 := t3 ⟨d, by omega⟩
  simp only at a3 b3 c3 d3
  rw [← hA] at a3; rw [← hB] at b3; rw [← hC] at c3; rw [← hD] at d3
  have f2 : x2 = w4 (F2 A) (F2 B) (F2 C) (F2 D) := by
    rw [h2, e4, e5]; unfold w4 F2; omega
  generalize F2 A = A2 at *
  generalize F2 B = B2 at *
  generalize F2 C = C2 at *
  generalize F2 D = D2 at *
  have g2 : x2 < 4294967296 := by rw [f2]; unfold w4; omega
  have e6 : (x2 + x2 / 16) % 4294967296 = w4 (A2 + A2 / 16 + 16 * (B2 % 16)) (B2 + B2 / 16 + 16 * (C2 % 16)) (C2 + C2 / 16 + 16 * (D2 % 16)) (D2 + D2 / 16) := by rw [f2]; unfold w4; omega
  have m15 : ∀ z : Nat, z &&& 15 = z % 16 := fun z => Nat.and_two_pow_sub_one_eq_mod z 4
  have f3 : x3 = w4 (P8 a) (P8 b) (P8 c) (P8 d) := by
    rw [h3, e6, show (252645135 : Nat) = w4 15 15 15 15 by rfl, and_w4 (by omega) (by omega) (by omega) (by omega), m15, m15, m15, m15, show (A2 + A2 / 16 + 16 * (B2 % 16)) % 16 = P8 a by omega, show (B2 + B2 / 16 + 16 * (C2 % 16)) % 16 = P8 b by omega, show (C2 + C2 / 16 + 16 * (D2 % 16)) % 16 = P8 c by omega, show (D2 + D2 / 16) % 16 = P8 d by omega]
  have m63 : ∀ z : Nat, z &&& 63 = z % 64 := fun z => Nat.and_two_pow_sub_one_eq_mod z 6
  rw [m63] at h6
  unfold w4 at f3
  have y1 : P8 a ≤ 8 := by omega
  have y2 : P8 b ≤ 8 := by omega
  have y3 : P8 c ≤ 8 := by omega
  have y4 : P8 d ≤ 8 := by omega
  clear a1 b1 c1 d1 a2 b2 c2 a3 b3 c3 d3 e1 e2 e3 e4 e5 e6 f1 f2 h1 h2 h3 hn4 q1 q2
  generalize P8 a = pa at *
  generalize P8 b = pb at *
  generalize P8 c = pc at *
  generalize P8 d = pd at *
  have k4 : x4 = 65536 * (256 * pd + (pc + pd)) + (256 * (pb + pc) + (pa + pb)) := by omega
  have k4d : x4 / 65536 = 256 * pd + (pc + pd) := by omega
  have k5 : x5 = 64 * (4 * (256 * (256 * pd + (pc + pd)) + (pb + pc + pd))) + (pa + pb + pc + pd) := by omega
  exact ⟨g1, g2, by omega, by omega, by omega, by omega⟩

def nn (u : Int32) : Nat := u.toBitVec.toNat
theorem nn_lt (u : Int32) : nn u < 4294967296 := u.toBitVec.isLt
theorem nn_and (u v : Int32) : nn (u &&& v) = nn u &&& nn v := rfl
theorem nn_add (u v : Int32) : nn (u + v) = (nn u + nn v) % 4294967296 := rfl
theorem nn_sub (u v : Int32) (h : nn v ≤ nn u) : nn (u - v) = nn u - nn v := by
  show (u.toBitVec - v.toBitVec).toNat = _
  rw [BitVec.toNat_sub_of_le (by exact h)]
  rfl
theorem nn_ushr (u : Int32) {k : Int} (h : 0 ≤ k ∧ k < 32) : nn (u.toUInt32 >>> ((iv k).toUInt32 &&& Int32.toUInt32 31)).toInt32 = nn u / 2 ^ k.toNat := by
  obtain ⟨n, rfl⟩ := fin32 h
  have hk : ∀ n : Fin 32, ((iv (n.val : Int)).toUInt32 &&& Int32.toUInt32 31).toBitVec % 32 = BitVec.ofNat 32 n.val := by decide
  unfold nn
  rw [UInt32.toBitVec_toInt32, UInt32.toBitVec_shiftRight, hk]
  show (u.toBitVec >>> (BitVec.ofNat 32 n.val).toNat).toNat = u.toBitVec.toNat / 2 ^ n.val
  rw [BitVec.toNat_ofNat, Nat.mod_eq_of_lt (by omega), BitVec.toNat_ushiftRight, Nat.shiftRight_eq_div_pow]
noncomputable def popM (m : Int) : Int := sumF (fun a => b2p (bitM m a)) 32 0
theorem b2p_bit (m : Int) (j k : Nat) : b2p (bitM m ((j + k : Nat) : Int)) = ((nn (iv m) / 2 ^ j / 2 ^ k % 2 : Nat) : Int) := by
  have e : bitM m ((j + k : Nat) : Int) ↔ nn (iv m) / 2 ^ j / 2 ^ k % 2 = 1 := by
    unfold bitM nn
    rw [Int.toNat_natCast, ← BitVec.testBit_toNat, Nat.testBit_eq_decide_div_mod_eq, decide_eq_true_eq, Nat.div_div_eq_div_mul, ← Nat.pow_add]
  by_cases h : bitM m ((j + k : Nat) : Int)
  · rw [b2p_t h, e.mp h]
    rfl
  · rw [b2p_f h]
    have h2 : ¬ nn (iv m) / 2 ^ j / 2 ^ k % 2 = 1 := fun z => h (e.mpr z)
    have h3 : nn (iv m) / 2 ^ j / 2 ^ k % 2 < 2 := Nat.mod_lt _ (by decide)
    generalize nn (iv m) / 2 ^ j / 2 ^ k % 2 = y at h2 h3
    omega
theorem P8_mod (y : Nat) : P8 (y % 256) = y / 2 ^ 0 % 2 + y / 2 ^ 1 % 2 + y / 2 ^ 2 % 2 + y / 2 ^ 3 % 2 + y / 2 ^ 4 % 2 + y / 2 ^ 5 % 2 + y / 2 ^ 6 % 2 + y / 2 ^ 7 % 2 := by
  unfold P8
  simp only [Nat.pow_zero, Nat.div_one]
  omega
theorem sum8 (m : Int) (j : Nat) : b2p (bitM m ((j + 0 : Nat) : Int)) + b2p (bitM m ((j + 1 : Nat) : Int)) + b2p (bitM m ((j + 2 : Nat) : Int)) + b2p (bitM m ((j + 3 : Nat) : Int)) + b2p (bitM m ((j + 4 : Nat) : Int)) + b2p (bitM m ((j + 5 : Nat) : Int)) + b2p (bitM m ((j + 6 : Nat) : Int)) + b2p (bitM m ((j + 7 : Nat) : Int)) = (P8 (nn (iv m) / 2 ^ j % 256) : Int) := by
  rw [P8_mod, b2p_bit, b2p_bit, b2p_bit, b2p_bit, b2p_bit, b2p_bit, b2p_bit, b2p_bit]
  simp only [Int.natCast_add]
theorem popM_eq (m : Int) : popM m = (pop4 (nn (iv m)) : Int) := by
  have s0 := sum8 m 0
  have s1 := sum8 m 8
  have s2 := sum8 m 16
  have s3 := sum8 m 24
  have e : popM m = b2p (bitM m 0) + (b2p (bitM m 1) + (b2p (bitM m 2) + (b2p (bitM m 3) + (b2p (bitM m 4) + (b2p (bitM m 5) + (b2p (bitM m 6) + (b2p (bitM m 7) + (b2p (bitM m 8) + (b2p (bitM m 9) + (b2p (bitM m 10) + (b2p (bitM m 11) + (b2p (bitM m 12) + (b2p (bitM m 13) + (b2p (bitM m 14) + (b2p (bitM m 15) + (b2p (bitM m 16) + (b2p (bitM m 17) + (b2p (bitM m 18) + (b2p (bitM m 19) + (b2p (bitM m 20) + (b2p (bitM m 21) + (b2p (bitM m 22) + (b2p (bitM m 23) + (b2p (bitM m 24) + (b2p (bitM m 25) + (b2p (bitM m 26) + (b2p (bitM m 27) + (b2p (bitM m 28) + (b2p (bitM m 29) + (b2p (bitM m 30) + (b2p (bitM m 31) + 0))))))))))))))))))))))))))))))) := rfl
  unfold pop4
  rw [e, Int.natCast_add, Int.natCast_add, Int.natCast_add]
  rw [show nn (iv m) / 2 ^ 0 = nn (iv m) from Nat.div_one _] at s0
  rw [← s0, ← s1, ← s2, ← s3]
  simp only [Int.add_zero, Int.add_assoc]
  rfl
abbrev ush (x y : Int32) : Int32 := (x.toUInt32 >>> (y.toUInt32 &&& Int32.toUInt32 31)).toInt32
section Pop
variable {G : GT} {K : List SH} {S : SV}
theorem p_bitCount {m : Int} : P G 0 0 0 mJ6_bitCount_0f7a4 0 (LE mJ6_bitCount_0f7a4 [IV m]) [] K S (Ret K (some (IV (popM m))) S) := by
  obtain ⟨w1, w2, w4, w5, w6, w7⟩ := popW (nn (iv m)) _ _ _ _ _ _ (nn_lt _) rfl rfl rfl rfl rfl rfl
  rw [show LE mJ6_bitCount_0f7a4 [IV m] = [some (IV m)] from rfl]
  refine T_iload_n dJ6_bitCount_0f7a4_0 rfl ?_
  refine T_iload_n dJ6_bitCount_0f7a4_1 rfl ?_
  refine I_iconst dJ6_bitCount_0f7a4_2 ?_
  refine T_iushr dJ6_bitCount_0f7a4_3 rfl ?_
  refine T_ldcw dJ6_bitCount_0f7a4_4 qJ6_265 ?_
  refine T_iand dJ6_bitCount_0f7a4_7 ?_
  refine T_isub dJ6_bitCount_0f7a4_8 ?_
  generalize h1 : iv m - (ush (iv m) (iv 1) &&& 1431655765) = x1
  have e1 : nn x1 = nn (iv m) - (nn (iv m) / 2 &&& 1431655765) := by
    have z : nn (ush (iv m) (iv 1) &&& 1431655765) = (nn (iv m) / 2 &&& 1431655765) := by
      rw [nn_and, nn_ushr _ ⟨by omega, by omega⟩]; rfl
    rw [← h1, nn_sub _ _ (by rw [z]; exact w1), z]
  rw [← e1] at w2 w4 w5 w6
  refine T_istore_n dJ6_bitCount_0f7a4_9 (by decide) rfl ?_
  refine T_iload_n dJ6_bitCount_0f7a4_10 rfl ?_
  refine T_ldcw dJ6_bitCount_0f7a4_11 qJ6_266 ?_
  refine T_iand dJ6_bitCount_0f7a4_14 ?_
  refine T_iload_n dJ6_bitCount_0f7a4_15 rfl ?_
  refine I_iconst dJ6_bitCount_0f7a4_16 ?_
  refine T_iushr dJ6_bitCount_0f7a4_17 rfl ?_
  refine T_ldcw dJ6_bitCount_0f7a4_18 qJ6_266 ?_
  refine T_iand dJ6_bitCount_0f7a4_21 ?_
  refine T_iadd dJ6_bitCount_0f7a4_22 ?_
  generalize h2 : (x1 &&& 858993459) + (ush x1 (iv 2) &&& 858993459) = x2
  have e2 : nn x2 = (nn x1 &&& 858993459) + (nn x1 / 4 &&& 858993459) := by
    rw [← h2, nn_add, nn_and, nn_and, nn_ushr _ ⟨by omega, by omega⟩]
    exact Nat.mod_eq_of_lt w2
  rw [← e2] at w4 w5 w6
  refine T_istore_n dJ6_bitCount_0f7a4_23 (by decide) rfl ?_
  refine T_iload_n dJ6_bitCount_0f7a4_24 rfl ?_
  refine T_iload_n dJ6_bitCount_0f7a4_25 rfl ?_
  refine I_iconst dJ6_bitCount_0f7a4_26 ?_
  refine T_iushr dJ6_bitCount_0f7a4_27 rfl ?_
  refine T_iadd dJ6_bitCount_0f7a4_28 ?_
  refine T_ldcw dJ6_bitCount_0f7a4_29 qJ6_267 ?_
  refine T_iand dJ6_bitCount_0f7a4_32 ?_
  generalize h3 : (x2 + ush x2 (iv 4)) &&& 252645135 = x3
  have e3 : nn x3 = (nn x2 + nn x2 / 16) % 4294967296 &&& 252645135 := by
    rw [← h3, nn_and, nn_add, nn_ushr _ ⟨by omega, by omega⟩]
    rfl
  rw [← e3] at w4 w5 w6
  refine T_istore_n dJ6_bitCount_0f7a4_33 (by decide) rfl ?_
  refine T_iload_n dJ6_bitCount_0f7a4_34 rfl ?_
  refine T_iload_n dJ6_bitCount_0f7a4_35 rfl ?_
  refine I_bipush dJ6_bitCount_0f7a4_36 (by decide) ?_
  refine T_iushr dJ6_bitCount_0f7a4_38 rfl ?_
  refine T_iadd dJ6_bitCount_0f7a4_39 ?_
  generalize h4 : x3 + ush x3 (iv 8) = x4
  have e4 : nn x4 = nn x3 + nn x3 / 256 := by
    rw [← h4, nn_add, nn_ushr _ ⟨by omega, by omega⟩]
    exact Nat.mod_eq_of_lt w4
  rw [← e4] at w5 w6
  refine T_istore_n dJ6_bitCount_0f7a4_40 (by decide) rfl ?_
  refine T_iload_n dJ6_bitCount_0f7a4_41 rfl ?_
  refine T_iload_n dJ6_bitCount_0f7a4_42 rfl ?_
  refine I_bipush dJ6_bitCount_0f7a4_43 (by decide) ?_
  refine T_iushr dJ6_bitCount_0f7a4_45 rfl ?_
  refine T_iadd dJ6_bitCount_0f7a4_46 ?_
  generalize h5 : x4 + ush x4 (iv 16) = x5
  have e5 : nn x5 = nn x4 + nn x4 / 65536 := by
    rw [← h5, nn_add, nn_ushr _ ⟨by omega, by omega⟩]
    exact Nat.mod_eq_of_lt w5
  rw [← e5] at w6
  refine T_istore_n dJ6_bitCount_0f7a4_47 (by decide) rfl ?_
  refine T_iload_n dJ6_bitCount_0f7a4_48 rfl ?_
  refine I_bipush dJ6_bitCount_0f7a4_49 (by decide) ?_
  refine T_iand dJ6_bitCount_0f7a4_51 ?_
  have e6 : x5 &&& iv 63 = iv (popM m) := by
    apply Int32.toBitVec_inj.mp
    apply BitVec.eq_of_toNat_eq
    show nn (x5 &&& iv 63) = nn (iv (popM m))
    rw [nn_and, show nn (iv 63) = 63 from rfl, w6, popM_eq]
    show _ = (BitVec.ofInt 32 (pop4 (nn (iv m)) : Int)).toNat
    rw [BitVec.ofInt_natCast, BitVec.toNat_ofNat]
    exact (Nat.mod_eq_of_lt (by omega)).symm
  rw [e6]
  exact I_ireturn dJ6_bitCount_0f7a4_52 rfl ⟨_, _, rfl, rfl, rfl, rfl⟩
theorem popM_R (m : Int) : 0 ≤ popM m ∧ popM m ≤ 32 := by
  obtain ⟨w1, w2, w4, w5, w6, w7⟩ := popW (nn (iv m)) _ _ _ _ _ _ (nn_lt _) rfl rfl rfl rfl rfl rfl
  rw [popM_eq]
  omega
noncomputable def itemA (r : Row) (w : Int) : Int := if w = 6 then popM (r 7) else r (w.toNat + 1)
theorem p_Item_answer {q : Nat} {w : Int} (hq : ItemAt K q) (hw : 0 ≤ w ∧ w ≤ 6) : P G 1 0 0 mX3_answer 0 (LE mX3_answer [.ref q, IV w]) [] K S (Ret K (some (IV (itemA (fun k => fI S q k) w))) S) := by
  unfold ItemAt at hq
  rcases (show w = 0 ∨ w = 1 ∨ w = 2 ∨ w = 3 ∨ w = 4 ∨ w = 5 ∨ w = 6 by omega) with rfl | rfl | rfl | rfl | rfl | rfl | rfl
  · rw [show LE mX3_answer [.ref q, IV 0] = [some (.ref q), some (IV 0)] from rfl]
    refine T_iload_n dX3_answer_0 rfl ?_
    refine I_tblIn (tgt := 40) dX3_answer_1 ⟨by omega, by omega⟩ (by omega) (by omega) rfl (by decide) ?_
    refine T_aload_n dX3_answer_40 rfl rfl ?_
    refine P_geti dX3_answer_41 fX3_7 (by assumption) rfl ?_
    exact I_ireturn dX3_answer_44 rfl ⟨_, _, rfl, rfl, rfl, rfl⟩
  · rw [show LE mX3_answer [.ref q, IV 1] = [some (.ref q), some (IV 1)] from rfl]
    refine T_iload_n dX3_answer_0 rfl ?_
    refine I_tblIn (tgt := 45) dX3_answer_1 ⟨by omega, by omega⟩ (by omega) (by omega) rfl (by decide) ?_
    refine T_aload_n dX3_answer_45 rfl rfl ?_
    refine P_geti dX3_answer_46 fX3_13 (by assumption) rfl ?_
    exact I_ireturn dX3_answer_49 rfl ⟨_, _, rfl, rfl, rfl, rfl⟩
  · rw [show LE mX3_answer [.ref q, IV 2] = [some (.ref q), some (IV 2)] from rfl]
    refine T_iload_n dX3_answer_0 rfl ?_
    refine I_tblIn (tgt := 50) dX3_answer_1 ⟨by omega, by omega⟩ (by omega) (by omega) rfl (by decide) ?_
    refine T_aload_n dX3_answer_50 rfl rfl ?_
    refine P_geti dX3_answer_51 fX3_16 (by assumption) rfl ?_
    exact I_ireturn dX3_answer_54 rfl ⟨_, _, rfl, rfl, rfl, rfl⟩
  · rw [show LE mX3_answer [.ref q, IV 3] = [some (.ref q), some (IV 3)] from rfl]
    refine T_iload_n dX3_answer_0 rfl ?_
    refine I_tblIn (tgt := 55) dX3_answer_1 ⟨by omega, by omega⟩ (by omega) (by omega) rfl (by decide) ?_
    refine T_aload_n dX3_answer_55 rfl rfl ?_
    refine P_geti dX3_answer_56 fX3_19 (by assumption) rfl ?_
    exact I_ireturn dX3_answer_59 rfl ⟨_, _, rfl, rfl, rfl, rfl⟩
  · rw [show LE mX3_answer [.ref q, IV 4] = [some (.ref q), some (IV 4)] from rfl]
    refine T_iload_n dX3_answer_0 rfl ?_
    refine I_tblIn (tgt := 60) dX3_answer_1 ⟨by omega, by omega⟩ (by omega) (by omega) rfl (by decide) ?_
    refine T_aload_n dX3_answer_60 rfl rfl ?_
    refine P_geti dX3_answer_61 fX3_22 (by assumption) rfl ?_
    exact I_ireturn dX3_answer_64 rfl ⟨_, _, rfl, rfl, rfl, rfl⟩
  · rw [show LE mX3_answer [.ref q, IV 5] = [some (.ref q), some (IV 5)] from rfl]
    refine T_iload_n dX3_answer_0 rfl ?_
    refine I_tblIn (tgt := 65) dX3_answer_1 ⟨by omega, by omega⟩ (by omega) (by omega) rfl (by decide) ?_
    refine T_aload_n dX3_answer_65 rfl rfl ?_
    refine P_geti dX3_answer_66 fX3_25 (by assumption) rfl ?_
    exact I_ireturn dX3_answer_69 rfl ⟨_, _, rfl, rfl, rfl, rfl⟩
  · rw [show LE mX3_answer [.ref q, IV 6] = [some (.ref q), some (IV 6)] from rfl]
    refine T_iload_n dX3_answer_0 rfl ?_
    refine I_tblOut (tgt := 70) dX3_answer_1 ⟨by omega, by omega⟩ (by omega) (by decide) ?_
    refine T_aload_n dX3_answer_70 rfl rfl ?_
    refine P_geti dX3_answer_71 fX3_28 (by assumption) rfl ?_
    refine Q_callS dX3_answer_74 kJ6_bitCount_0f7a4 lX3_31 p_bitCount rfl rfl (Nat.le_of_ble_eq_true rfl) (Nat.le_of_ble_eq_true rfl) (by decide) (by decide) ?_
    exact I_ireturn dX3_answer_77 rfl ⟨_, _, rfl, rfl, rfl, rfl⟩
end Pop
