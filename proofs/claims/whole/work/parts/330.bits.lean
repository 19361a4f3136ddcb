/-! ===== bits of ints and longs, by whole numbers (rows on shifts began with kit/laws/BITS) ===== -/
theorem zI_bv (a : Nat) : (zI (a : Int)).toBitVec = BitVec.ofNat 32 a := by
  show BitVec.ofInt 32 (a : Int) = BitVec.ofNat 32 a
  exact BitVec.ofInt_natCast ..
theorem zL_bv (a : Nat) : (zL (a : Int)).toBitVec = BitVec.ofNat 64 a := by
  show BitVec.ofInt 64 (a : Int) = BitVec.ofNat 64 a
  exact BitVec.ofInt_natCast ..
theorem gI (a i : Nat) (hi : i < 32) : (zI (a : Int)).toBitVec.getLsbD i = a.testBit i := by
  rw [zI_bv, BitVec.getLsbD_ofNat]
  simp [hi]
theorem gL (a i : Nat) (hi : i < 64) : (zL (a : Int)).toBitVec.getLsbD i = a.testBit i := by
  rw [zL_bv, BitVec.getLsbD_ofNat]
  simp [hi]
theorem toI_of {v : Int32} {n : Nat} (hn : n < 2147483648) (h : ∀ i, i < 32 → v.toBitVec.getLsbD i = n.testBit i) : v.toInt = (n : Int) := by
  have e : v.toBitVec = BitVec.ofNat 32 n := BitVec.eq_of_getLsbD_eq (fun i hi => by rw [h i hi, BitVec.getLsbD_ofNat]; simp [hi])
  show v.toBitVec.toInt = _
  have e2 : (BitVec.ofNat 32 n).toNat = n := by rw [BitVec.toNat_ofNat]; omega
  rw [e, BitVec.toInt_eq_toNat_of_lt (by rw [e2]; omega), e2]
theorem toL_of {v : Int64} {n : Nat} (hn : n < 9223372036854775808) (h : ∀ i, i < 64 → v.toBitVec.getLsbD i = n.testBit i) : v.toInt = (n : Int) := by
  have e : v.toBitVec = BitVec.ofNat 64 n := BitVec.eq_of_getLsbD_eq (fun i hi => by rw [h i hi, BitVec.getLsbD_ofNat]; simp [hi])
  show v.toBitVec.toInt = _
  have e2 : (BitVec.ofNat 64 n).toNat = n := by rw [BitVec.toNat_ofNat]; omega
  rw [e, BitVec.toInt_eq_toNat_of_lt (by rw [e2]; omega), e2]
/-- the bits of a that b hasn't -/
def nd (a b : Nat) : Nat := a ^^^ (a &&& b)
theorem nd_bit (a b i : Nat) : (nd a b).testBit i = (a.testBit i && !b.testBit i) := by
  unfold nd
  rw [Nat.testBit_xor, Nat.testBit_and]
  cases a.testBit i <;> cases b.testBit i <;> rfl
theorem sub_le {a b : Nat} (h : ∀ i, a.testBit i = true → b.testBit i = true) : a ≤ b := by
  have e : a &&& b = a := by
    apply Nat.eq_of_testBit_eq
    intro i
    rw [Nat.testBit_and]
    cases q : a.testBit i with
    | false => rfl
    | true => rw [h i q]; rfl
  rw [← e]
  exact Nat.and_le_right
theorem nd_le (a b : Nat) : nd a b ≤ a := sub_le (fun i h => by
  rw [nd_bit] at h
  exact (Bool.and_eq_true_iff.mp h).1)
theorem zand_n {a b : Nat} (ha : a < 2147483648) : zand (a : Int) (b : Int) = ((a &&& b : Nat) : Int) := by
  unfold zand
  refine toI_of (Nat.lt_of_le_of_lt Nat.and_le_left ha) (fun i hi => ?_)
  rw [Int32.toBitVec_and, BitVec.getLsbD_and, gI a i hi, gI b i hi, Nat.testBit_and]
theorem or_lt31 {a b : Nat} (ha : a < 2147483648) (hb : b < 2147483648) : a ||| b < 2147483648 := Nat.or_lt_two_pow (n := 31) ha hb
theorem zor_n {a b : Nat} (ha : a < 2147483648) (hb : b < 2147483648) : zor (a : Int) (b : Int) = ((a ||| b : Nat) : Int) := by
  unfold zor
  refine toI_of (or_lt31 ha hb) (fun i hi => ?_)
  rw [Int32.toBitVec_or, BitVec.getLsbD_or, gI a i hi, gI b i hi, Nat.testBit_or]
theorem zxor_n {a b : Nat} (ha : a < 2147483648) (hb : b < 2147483648) : zxor (a : Int) (b : Int) = ((a ^^^ b : Nat) : Int) := by
  unfold zxor
  refine toI_of (Nat.xor_lt_two_pow (n := 31) ha hb) (fun i hi => ?_)
  rw [Int32.toBitVec_xor, BitVec.getLsbD_xor, gI a i hi, gI b i hi, Nat.testBit_xor]
theorem m1I : ∀ i, i < 32 → (zI (-1)).toBitVec.getLsbD i = true := by decide +kernel
theorem m1L : ∀ i, i < 64 → (zL (-1)).toBitVec.getLsbD i = true := by decide +kernel
theorem zandn_n {a b : Nat} (ha : a < 2147483648) : zand (a : Int) (zxor (b : Int) (-1)) = ((nd a b : Nat) : Int) := by
  unfold zand zxor
  rw [zI_of]
  refine toI_of (Nat.lt_of_le_of_lt (nd_le a b) ha) (fun i hi => ?_)
  rw [Int32.toBitVec_and, BitVec.getLsbD_and, gI a i hi, Int32.toBitVec_xor, BitVec.getLsbD_xor, gI b i hi, m1I i hi, nd_bit]
  simp
theorem zI_nat' (k : Nat) : zI (k : Int) = Int32.ofNat k := by
  apply Int32.toBitVec_inj.mp
  rw [zI_bv]
  rfl
theorem cntI : ∀ n, n < 32 → ((zI ((n : Nat) : Int) &&& 31).toBitVec.smod 32).toNat = n := by decide +kernel
theorem zshr_bit {a k i : Nat} (ha : a < 2147483648) (hk : k < 31) : zshr (a : Int) (k : Int) = ((a / 2 ^ k : Nat) : Int) := by
  unfold zshr
  have hle : a / 2 ^ k ≤ a := Nat.div_le_self _ _
  refine toI_of (by omega) (fun i hi => ?_)
  rw [Int32.toBitVec_shiftRight]
  show ((zI (a : Int)).toBitVec.sshiftRight ((zI (k : Int) &&& 31).toBitVec.smod 32).toNat).getLsbD i = _
  rw [cntI k (by omega), BitVec.getLsbD_sshiftRight, BitVec.msb_eq_getLsbD_last]
  have h31 : a.testBit 31 = false := Nat.testBit_lt_two_pow ha
  have hbig : ∀ j, 31 ≤ j → a.testBit j = false := fun j hj => Nat.testBit_lt_two_pow (Nat.lt_of_lt_of_le ha (Nat.pow_le_pow_right (show 2 > 0 by decide) hj))
  rw [Nat.testBit_div_two_pow]
  by_cases q : k + i < 32
  · rw [if_pos q, gI a (k + i) q, Nat.add_comm i k, decide_eq_false (show ¬ 32 ≤ i by omega)]
    rfl
  · rw [if_neg q, gI a (32 - 1) (by decide), h31, hbig (i + k) (by omega), Bool.and_false]
theorem zbit_n {a k : Nat} (ha : a < 2147483648) (hk : k < 31) : zand (zshr (a : Int) (k : Int)) 1 = (if a.testBit k then 1 else 0 : Int) := by
  rw [zshr_bit (i := 0) ha hk, show (1 : Int) = ((1 : Nat) : Int) from rfl, zand_n (Nat.lt_of_le_of_lt (Nat.div_le_self _ _) ha), Nat.and_one_is_mod, Nat.testBit_eq_decide_div_mod_eq]
  have := Nat.mod_two_eq_zero_or_one (a / 2 ^ k)
  rcases this with q | q <;> rw [q] <;> simp
theorem shl1 : ∀ k, k < 31 → zshl 1 ((k : Nat) : Int) = ((2 ^ k : Nat) : Int) := by decide +kernel
theorem shl0 : ∀ k, k < 31 → zshl 0 ((k : Nat) : Int) = 0 := by decide +kernel
theorem lsl1 : ∀ k, k < 40 → zlsl 1 ((k : Nat) : Int) = ((2 ^ k : Nat) : Int) := by decide +kernel
theorem zlnd_n {a b : Nat} (ha : a < 9223372036854775808) : zlnd (a : Int) (b : Int) = ((a &&& b : Nat) : Int) := by
  unfold zlnd
  refine toL_of (Nat.lt_of_le_of_lt Nat.and_le_left ha) (fun i hi => ?_)
  rw [Int64.toBitVec_and, BitVec.getLsbD_and, gL a i hi, gL b i hi, Nat.testBit_and]
theorem zlor_n {a b : Nat} (ha : a < 9223372036854775808) (hb : b < 9223372036854775808) : zlor (a : Int) (b : Int) = ((a ||| b : Nat) : Int) := by
  unfold zlor
  refine toL_of (Nat.or_lt_two_pow (n := 63) ha hb) (fun i hi => ?_)
  rw [Int64.toBitVec_or, BitVec.getLsbD_or, gL a i hi, gL b i hi, Nat.testBit_or]
theorem zlndn_n {a b : Nat} (ha : a < 9223372036854775808) : zlnd (a : Int) (zlxr (b : Int) (-1)) = ((nd a b : Nat) : Int) := by
  unfold zlnd zlxr
  rw [zL_of]
  refine toL_of (Nat.lt_of_le_of_lt (nd_le a b) ha) (fun i hi => ?_)
  rw [Int64.toBitVec_and, BitVec.getLsbD_and, gL a i hi, Int64.toBitVec_xor, BitVec.getLsbD_xor, gL b i hi, m1L i hi, nd_bit]
  simp
theorem cntL : ∀ n, n < 64 → (((zI ((n : Nat) : Int)).toInt64 &&& 63).toBitVec.smod 64).toNat = n := by decide +kernel
theorem zlsr_n {a k : Nat} (ha : a < 9223372036854775808) (hk : k < 63) : zlsr (a : Int) (k : Int) = ((a / 2 ^ k : Nat) : Int) := by
  unfold zlsr
  have hle : a / 2 ^ k ≤ a := Nat.div_le_self _ _
  refine toL_of (by omega) (fun i hi => ?_)
  rw [Int64.toBitVec_shiftRight]
  show ((zL (a : Int)).toBitVec.sshiftRight (((zI (k : Int)).toInt64 &&& 63).toBitVec.smod 64).toNat).getLsbD i = _
  rw [cntL k (by omega), BitVec.getLsbD_sshiftRight, BitVec.msb_eq_getLsbD_last]
  have h63 : a.testBit 63 = false := Nat.testBit_lt_two_pow ha
  have hbig : ∀ j, 63 ≤ j → a.testBit j = false := fun j hj => Nat.testBit_lt_two_pow (Nat.lt_of_lt_of_le ha (Nat.pow_le_pow_right (show 2 > 0 by decide) hj))
  rw [Nat.testBit_div_two_pow]
  by_cases q : k + i < 64
  · rw [if_pos q, gL a (k + i) q, Nat.add_comm i k, decide_eq_false (show ¬ 64 ≤ i by omega)]
    rfl
  · rw [if_neg q, gL a (64 - 1) (by decide), h63, hbig (i + k) (by omega), Bool.and_false]
theorem zlbit_n {a k : Nat} (ha : a < 9223372036854775808) (hk : k < 63) : zlnd (zlsr (a : Int) (k : Int)) 1 = (if a.testBit k then 1 else 0 : Int) := by
  rw [zlsr_n ha hk, show (1 : Int) = ((1 : Nat) : Int) from rfl, zlnd_n (Nat.lt_of_le_of_lt (Nat.div_le_self _ _) ha), Nat.and_one_is_mod, Nat.testBit_eq_decide_div_mod_eq]
  have := Nat.mod_two_eq_zero_or_one (a / 2 ^ k)
  rcases this with q | q <;> rw [q] <;> simp
theorem zlus_n {a k : Nat} (ha : a < 9223372036854775808) (hk : k < 64) : zlus (a : Int) (k : Int) = ((a / 2 ^ k : Nat) : Int) := by
  unfold zlus
  have hle : a / 2 ^ k ≤ a := Nat.div_le_self _ _
  have e1 : ∀ k, k < 64 → ((zI ((k : Nat) : Int)).toInt64.toUInt64 &&& Int64.toUInt64 63).toNat = k := by decide +kernel
  have e2 : (zL (a : Int)).toUInt64.toNat = a := by
    show (zL (a : Int)).toBitVec.toNat = a
    rw [zL_bv, BitVec.toNat_ofNat]
    omega
  have e3 : ((zL (a : Int)).toUInt64 >>> ((zI (k : Int)).toInt64.toUInt64 &&& Int64.toUInt64 63)).toNat = a / 2 ^ k := by
    rw [UInt64.toNat_shiftRight, e1 k hk, e2, Nat.mod_eq_of_lt hk, Nat.shiftRight_eq_div_pow]
  refine toL_of (by omega) (fun i hi => ?_)
  show (((zL (a : Int)).toUInt64 >>> ((zI (k : Int)).toInt64.toUInt64 &&& Int64.toUInt64 63)).toBitVec).getLsbD i = _
  rw [← e3]
  rfl
theorem zius_n {a k : Nat} (ha : a < 2147483648) (hk : k < 32) : zius (a : Int) (k : Int) = ((a / 2 ^ k : Nat) : Int) := by
  unfold zius
  have hle : a / 2 ^ k ≤ a := Nat.div_le_self _ _
  have e1 : ∀ k, k < 32 → ((zI ((k : Nat) : Int)).toUInt32 &&& Int32.toUInt32 31).toNat = k := by decide +kernel
  have e2 : (zI (a : Int)).toUInt32.toNat = a := by
    show (zI (a : Int)).toBitVec.toNat = a
    rw [zI_bv, BitVec.toNat_ofNat]
    omega
  have e3 : ((zI (a : Int)).toUInt32 >>> ((zI (k : Int)).toUInt32 &&& Int32.toUInt32 31)).toNat = a / 2 ^ k := by
    rw [UInt32.toNat_shiftRight, e1 k hk, e2, Nat.mod_eq_of_lt hk, Nat.shiftRight_eq_div_pow]
  refine toI_of (by omega) (fun i hi => ?_)
  show (((zI (a : Int)).toUInt32 >>> ((zI (k : Int)).toUInt32 &&& Int32.toUInt32 31)).toBitVec).getLsbD i = _
  rw [← e3]
  rfl
