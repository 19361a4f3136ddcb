/-! ===== sets as masks: how many, which comes next, which came before ===== -/
def tb (x : Nat) : Nat → Bool := fun k => x.testBit k
theorem and2 {a b p q : Nat} (hp : p < 2) (hq : q < 2) : (2 * a + p) &&& (2 * b + q) = 2 * (a &&& b) + (p &&& q) := by
  have hpq : p &&& q < 2 := Nat.lt_of_le_of_lt Nat.and_le_left hp
  apply Nat.eq_of_testBit_eq
  intro i
  cases i with
  | zero =>
    rw [Nat.testBit_and, Nat.testBit_zero, Nat.testBit_zero, Nat.testBit_zero]
    have h1 : p = 0 ∨ p = 1 := by omega
    have h2 : q = 0 ∨ q = 1 := by omega
    rcases h1 with e | e <;> rcases h2 with f | f <;> subst e <;> subst f <;> simp <;> omega
  | succ i =>
    rw [Nat.testBit_and, Nat.testBit_succ, Nat.testBit_succ, Nat.testBit_succ, show (2 * a + p) / 2 = a by omega, show (2 * b + q) / 2 = b by omega, show (2 * (a &&& b) + (p &&& q)) / 2 = a &&& b by omega, Nat.testBit_and]
theorem half (x : Nat) : ∃ y p, p < 2 ∧ x = 2 * y + p := ⟨x / 2, x % 2, Nat.mod_lt _ (by decide), by omega⟩
/-- a part of f -/
def Sb (x f : Nat) : Prop := x &&& f = x
theorem Sb.half {x f p q : Nat} (hp : p < 2) (hq : q < 2) (h : Sb (2 * x + p) (2 * f + q)) : Sb x f ∧ p ≤ q := by
  unfold Sb at *
  rw [and2 hp hq] at h
  have h1 : p = 0 ∨ p = 1 := by omega
  have h2 : q = 0 ∨ q = 1 := by omega
  rcases h1 with e | e <;> rcases h2 with g | g <;> subst e <;> subst g <;> simp at h <;> omega
theorem Sb.le {x f : Nat} (h : Sb x f) : x ≤ f := by
  unfold Sb at h
  rw [← h]
  exact Nat.and_le_right
theorem Sb.bit {x f k : Nat} (h : Sb x f) (hk : x.testBit k = true) : f.testBit k = true := by
  unfold Sb at h
  rw [← h, Nat.testBit_and, Bool.and_eq_true] at hk
  exact hk.2
theorem Sb.of {x f : Nat} (h : ∀ k, x.testBit k = true → f.testBit k = true) : Sb x f := by
  unfold Sb
  apply Nat.eq_of_testBit_eq
  intro i
  rw [Nat.testBit_and]
  cases q : x.testBit i with
  | false => rfl
  | true => rw [h i q]; rfl
theorem sb_and (x f : Nat) : Sb (x &&& f) f := Sb.of (fun k h => by
  rw [Nat.testBit_and, Bool.and_eq_true] at h
  exact h.2)
theorem b2and {p q : Nat} (hp : p < 2) (hq : q < 2) : (p &&& q) = p * q := by
  have h1 : p = 0 ∨ p = 1 := by omega
  have h2 : q = 0 ∨ q = 1 := by omega
  rcases h1 with e | e <;> rcases h2 with g | g <;> subst e <;> subst g <;> rfl
/-- what comes before: the greatest part below -/
theorem dn_le : ∀ (n x f z : Nat), x < 2 ^ n → 0 < x → Sb x f → Sb z f → z < x → z ≤ (x - 1) &&& f
  | 0, x, f, z, hx, h0, _, _, _ => by simp at hx; omega
  | n + 1, x, f, z, hx, h0, hxf, hzf, hz => by
    obtain ⟨a, p, hp, ea⟩ := half x
    obtain ⟨g, q, hq, eg⟩ := half f
    obtain ⟨c, r, hr, ec⟩ := half z
    subst ea; subst eg; subst ec
    obtain ⟨s1, s2⟩ := hxf.half hp hq
    obtain ⟨s3, s4⟩ := hzf.half hr hq
    rw [Nat.pow_succ] at hx
    by_cases e : p = 1
    · subst e
      rw [show 2 * a + 1 - 1 = 2 * a + 0 by omega, and2 (by decide) hq, b2and (by decide) hq]
      unfold Sb at s1
      rw [s1]
      omega
    · have e0 : p = 0 := by omega
      subst e0
      rw [show 2 * a + 0 - 1 = 2 * (a - 1) + 1 by omega, and2 (by decide) hq, b2and (by decide) hq]
      have := dn_le n a g c (by omega) (by omega) s1 s3 (by omega)
      omega
theorem dn_lt {x f : Nat} (h0 : 0 < x) : (x - 1) &&& f < x := by
  have : (x - 1) &&& f ≤ x - 1 := Nat.and_le_left
  omega
/-- what comes next: the least part above -/
theorem nx1 : ∀ (n x f : Nat), f < 2 ^ n → Sb x f → (x + 2 ^ n - f - 1) &&& f = x
  | 0, x, f, hf, h => by
    have := h.le
    simp at hf
    subst hf
    simp at this
    subst this
    rfl
  | n + 1, x, f, hf, h => by
    obtain ⟨a, p, hp, ea⟩ := half x
    obtain ⟨g, q, hq, eg⟩ := half f
    subst ea; subst eg
    obtain ⟨s1, s2⟩ := h.half hp hq
    rw [Nat.pow_succ] at hf ⊢
    have ih := nx1 n a g (by omega) s1
    have := s1.le
    have h1 : p = 0 ∨ p = 1 := by omega
    have h2 : q = 0 ∨ q = 1 := by omega
    rcases h2 with e | e
    · subst e
      have e0 : p = 0 := by omega
      subst e0
      rw [show 2 * a + 0 + 2 ^ n * 2 - (2 * g + 0) - 1 = 2 * (a + 2 ^ n - g - 1) + 1 by omega, and2 (by decide) (by decide), ih]
      rfl
    · subst e
      rcases h1 with e | e <;> subst e
      · rw [show 2 * a + 0 + 2 ^ n * 2 - (2 * g + 1) - 1 = 2 * (a + 2 ^ n - g - 1) + 0 by omega, and2 (by decide) (by decide), ih]
        rfl
      · rw [show 2 * a + 1 + 2 ^ n * 2 - (2 * g + 1) - 1 = 2 * (a + 2 ^ n - g - 1) + 1 by omega, and2 (by decide) (by decide), ih]
        rfl
theorem nx_ord : ∀ (n x f : Nat), f < 2 ^ n → Sb x f → x ≠ f → x < (x + 2 ^ n - f) &&& f ∧ ∀ z, Sb z f → x < z → (x + 2 ^ n - f) &&& f ≤ z
  | 0, x, f, hf, h, hne => by
    have := h.le
    simp at hf
    omega
  | n + 1, x, f, hf, h, hne => by
    obtain ⟨a, p, hp, ea⟩ := half x
    obtain ⟨g, q, hq, eg⟩ := half f
    subst ea; subst eg
    obtain ⟨s1, s2⟩ := h.half hp hq
    rw [Nat.pow_succ] at hf ⊢
    have hle := s1.le
    have h1 : p = 0 ∨ p = 1 := by omega
    have h2 : q = 0 ∨ q = 1 := by omega
    rcases h2 with e | e
    · subst e
      have e0 : p = 0 := by omega
      subst e0
      have ih := nx_ord n a g (by omega) s1 (by omega)
      rw [show 2 * a + 0 + 2 ^ n * 2 - (2 * g + 0) = 2 * (a + 2 ^ n - g) + 0 by omega, and2 (by decide) (by decide), show (0 : Nat) &&& 0 = 0 from rfl]
      refine ⟨by omega, fun z hz hz2 => ?_⟩
      obtain ⟨c, r, hr, ec⟩ := half z
      subst ec
      obtain ⟨s3, s4⟩ := hz.half hr (by decide)
      have := ih.2 c s3 (by omega)
      omega
    · subst e
      rcases h1 with e | e <;> subst e
      · have e1 := nx1 n a g (by omega) s1
        rw [show 2 * a + 0 + 2 ^ n * 2 - (2 * g + 1) = 2 * (a + 2 ^ n - g - 1) + 1 by omega, and2 (by decide) (by decide), e1, show (1 : Nat) &&& 1 = 1 from rfl]
        exact ⟨by omega, fun z _ hz2 => by omega⟩
      · have ih := nx_ord n a g (by omega) s1 (by omega)
        rw [show 2 * a + 1 + 2 ^ n * 2 - (2 * g + 1) = 2 * (a + 2 ^ n - g) + 0 by omega, and2 (by decide) (by decide), show (0 : Nat) &&& 1 = 0 from rfl]
        refine ⟨by omega, fun z hz hz2 => ?_⟩
        obtain ⟨c, r, hr, ec⟩ := half z
        subst ec
        obtain ⟨s3, s4⟩ := hz.half hr (by decide)
        have := ih.2 c s3 (by omega)
        omega
/-- the class's step to the next part, over the machine's ints -/
theorem nx_int {x f : Nat} (hf : f < 512) (hx : x ≤ f) : zand (zw ((x : Int) - f)) f = (((x + 512 - f) &&& f : Nat) : Int) := by
  have e0 : zw ((x : Int) - f) = (x : Int) - f := zw_in (by omega) (by omega)
  rw [e0]
  unfold zand
  refine toI_of (Nat.lt_of_le_of_lt Nat.and_le_right (by omega)) (fun i hi => ?_)
  rw [Int32.toBitVec_and, BitVec.getLsbD_and, gI f i hi, Nat.testBit_and]
  have e1 : (zI ((x : Int) - f)).toBitVec = BitVec.ofNat 32 (x + 4294967296 - f) := by
    show BitVec.ofInt 32 ((x : Int) - f) = _
    apply BitVec.eq_of_toInt_eq
    rw [BitVec.toInt_ofInt, ← BitVec.ofInt_natCast, BitVec.toInt_ofInt]
    have : ((x + 4294967296 - f : Nat) : Int) = ((x : Int) - f) + 4294967296 := by omega
    rw [this]
    show Int.bmod ((x : Int) - f) 4294967296 = Int.bmod ((x : Int) - f + 4294967296) 4294967296
    unfold Int.bmod
    rw [show ((x : Int) - f + 4294967296) % ((4294967296 : Nat) : Int) = ((x : Int) - f) % ((4294967296 : Nat) : Int) by omega]
  rw [e1, BitVec.getLsbD_ofNat]
  by_cases h9 : i < 9
  · have e2 : (x + 4294967296 - f).testBit i = (x + 512 - f).testBit i := by
      have a1 := Nat.testBit_mod_two_pow (x + 4294967296 - f) 9 i
      have a2 := Nat.testBit_mod_two_pow (x + 512 - f) 9 i
      rw [decide_eq_true h9, Bool.true_and] at a1 a2
      rw [← a1, ← a2]
      congr 1
      omega
    rw [e2]
    simp [hi]
  · have : f.testBit i = false := Nat.testBit_lt_two_pow (Nat.lt_of_lt_of_le hf (by
      have : 2 ^ 9 ≤ 2 ^ i := Nat.pow_le_pow_right (show 2 > 0 by decide) (by omega)
      exact this))
    rw [this, Bool.and_false, Bool.and_false]
theorem nx0_int {f : Nat} (hf : f < 512) : zand (zw (-(f : Int))) f = (((0 + 512 - f) &&& f : Nat) : Int) := by
  have := nx_int (x := 0) hf (Nat.zero_le _)
  rw [← this, show ((0 : Nat) : Int) - (f : Int) = -(f : Int) by omega]
/-- how many bits -/
theorem zbc9F : ∀ x : Fin 512, zbc (x.val : Int) = ((cnt 9 (tb x.val) : Nat) : Int) := by decide +kernel
theorem zbc9 {x : Nat} (h : x < 512) : zbc (x : Int) = ((cnt 9 (tb x) : Nat) : Int) := zbc9F ⟨x, h⟩
/-- the mask of a set -/
def mks : Nat → (Nat → Bool) → Nat
  | 0, _ => 0
  | n + 1, s => mks n s + (if s n then 2 ^ n else 0)
theorem mks_lt (s : Nat → Bool) : ∀ n, mks n s < 2 ^ n
  | 0 => by simp [mks]
  | n + 1 => by
    have := mks_lt s n
    unfold mks
    rw [Nat.pow_succ]
    split <;> omega
theorem mks_bit (s : Nat → Bool) : ∀ n k, k < n → (mks n s).testBit k = s k
  | 0, k, h => absurd h (Nat.not_lt_zero _)
  | n + 1, k, h => by
    unfold mks
    have hl := mks_lt s n
    by_cases e : k = n
    · subst e
      cases q : s k with
      | true =>
        simp only [if_true]
        rw [Nat.add_comm, Nat.testBit_two_pow_add_eq, Nat.testBit_lt_two_pow hl]; rfl
      | false =>
        simp only [if_false, Bool.false_eq_true]
        exact Nat.testBit_lt_two_pow hl
    · have hk : k < n := by omega
      cases q : s n with
      | true =>
        simp only [if_true]
        rw [Nat.add_comm, Nat.testBit_two_pow_add_gt hk]
        exact mks_bit s n k hk
      | false =>
        simp only [if_false, Bool.false_eq_true]
        exact mks_bit s n k hk
theorem tb_hi {x n k : Nat} (h : x < 2 ^ n) (hk : n ≤ k) : tb x k = false := Nat.testBit_lt_two_pow (Nat.lt_of_lt_of_le h (Nat.pow_le_pow_right (by decide) hk))
theorem tb_inj {x y n : Nat} (hx : x < 2 ^ n) (hy : y < 2 ^ n) (h : ∀ k, k < n → tb x k = tb y k) : x = y := by
  apply Nat.eq_of_testBit_eq
  intro i
  by_cases q : i < n
  · exact h i q
  · have a := tb_hi hx (show n ≤ i by omega)
    have b := tb_hi hy (show n ≤ i by omega)
    unfold tb at a b
    rw [a, b]
theorem tb_or (x y : Nat) : tb (x ||| y) = fun k => tb x k || tb y k := by
  funext k
  exact Nat.testBit_or ..
theorem cnt_tb_mks {s : Nat → Bool} {m n : Nat} (h : m ≤ n) : cnt m (tb (mks n s)) = cnt m s := cnt_congr m (fun k hk => mks_bit s n k (by omega))
