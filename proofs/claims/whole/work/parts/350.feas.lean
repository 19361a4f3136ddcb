/-! ===== the reference: whether posts can all be filled ===== -/
theorem zneg_and {x o : Nat} (hx : x < 512) (ho : o ≤ 512) : zand (x : Int) (zw (-(o : Int))) = ((x &&& (512 - o) : Nat) : Int) := by
  have e0 : zw (-(o : Int)) = -(o : Int) := zw_in (by omega) (by omega)
  rw [e0]
  unfold zand
  refine toI_of (Nat.lt_of_le_of_lt Nat.and_le_left (by omega)) (fun i hi => ?_)
  rw [Int32.toBitVec_and, BitVec.getLsbD_and, gI x i hi, Nat.testBit_and]
  have e1 : (zI (-(o : Int))).toBitVec = BitVec.ofNat 32 (4294967296 - o) := by
    show BitVec.ofInt 32 (-(o : Int)) = _
    apply BitVec.eq_of_toInt_eq
    rw [BitVec.toInt_ofInt, ← BitVec.ofInt_natCast, BitVec.toInt_ofInt]
    have : ((4294967296 - o : Nat) : Int) = -(o : Int) + 4294967296 := by omega
    rw [this]
    show Int.bmod (-(o : Int)) 4294967296 = Int.bmod (-(o : Int) + 4294967296) 4294967296
    unfold Int.bmod
    rw [show (-(o : Int) + 4294967296) % ((4294967296 : Nat) : Int) = (-(o : Int)) % ((4294967296 : Nat) : Int) by omega]
  rw [e1, BitVec.getLsbD_ofNat]
  by_cases h9 : i < 9
  · have e2 : (4294967296 - o).testBit i = (512 - o).testBit i := by
      have a1 := Nat.testBit_mod_two_pow (4294967296 - o) 9 i
      have a2 := Nat.testBit_mod_two_pow (512 - o) 9 i
      rw [decide_eq_true h9, Bool.true_and] at a1 a2
      rw [← a1, ← a2]
      congr 1
      omega
    rw [e2]
    simp [hi]
  · have : x.testBit i = false := Nat.testBit_lt_two_pow (Nat.lt_of_lt_of_le hx (by
      have : 2 ^ 9 ≤ 2 ^ i := Nat.pow_le_pow_right (show 2 > 0 by decide) (by omega)
      exact this))
    rw [this, Bool.false_and, Bool.false_and]
theorem hor_shift (A : Nat → Bool) : ∀ n, hor (n + 1) A = (A 0).toNat * 2 ^ n + hor n (fun k => A (k + 1))
  | 0 => by simp [hor]
  | n + 1 => by
    rw [hor, hor_shift A n]
    rw [show hor (n + 1) (fun k => A (k + 1)) = 2 * hor n (fun k => A (k + 1)) + (A (n + 1)).toNat from rfl, Nat.pow_succ, Nat.mul_add]
    rw [show 2 * ((A 0).toNat * 2 ^ n) = (A 0).toNat * (2 ^ n * 2) by rw [Nat.mul_comm (2 ^ n) 2, ← Nat.mul_assoc, ← Nat.mul_assoc, Nat.mul_comm 2]]
    omega
theorem xor2 {a b p q : Nat} (hp : p < 2) (hq : q < 2) : (2 * a + p) ^^^ (2 * b + q) = 2 * (a ^^^ b) + (p ^^^ q) := by
  have hpq : p ^^^ q < 2 := Nat.xor_lt_two_pow (n := 1) hp hq
  apply Nat.eq_of_testBit_eq
  intro i
  cases i with
  | zero =>
    rw [Nat.testBit_xor, Nat.testBit_zero, Nat.testBit_zero, Nat.testBit_zero]
    have h1 : p = 0 ∨ p = 1 := by omega
    have h2 : q = 0 ∨ q = 1 := by omega
    rcases h1 with e | e <;> rcases h2 with f | f <;> subst e <;> subst f <;> simp <;> omega
  | succ i =>
    rw [Nat.testBit_xor, Nat.testBit_succ, Nat.testBit_succ, Nat.testBit_succ, show (2 * a + p) / 2 = a by omega, show (2 * b + q) / 2 = b by omega, show (2 * (a ^^^ b) + (p ^^^ q)) / 2 = a ^^^ b by omega, Nat.testBit_xor]
theorem tbs {a p : Nat} (hp : p < 2) : (fun k => tb (2 * a + p) (k + 1)) = tb a := by
  funext k
  exact tb2 hp
theorem tb_0 {a p : Nat} (hp : p < 2) : (tb (2 * a + p) 0).toNat = p := by
  unfold tb
  rw [Nat.testBit_zero]
  have h1 : p = 0 ∨ p = 1 := by omega
  rcases h1 with e | e <;> subst e <;> simp
/-- of two sets, which is rather to be filled: by the first post in which they differ -/
theorem rath : ∀ (n x y : Nat), x < 2 ^ n → y < 2 ^ n → x ≠ y → ((x &&& (x ^^^ y)) &&& (2 ^ n - (x ^^^ y)) ≠ 0 ↔ hor n (tb y) < hor n (tb x))
  | 0, x, y, hx, hy, h => by simp at hx hy; omega
  | n + 1, x, y, hx, hy, h => by
    obtain ⟨a, p, hp, ea⟩ := half x
    obtain ⟨b, q, hq, eb⟩ := half y
    subst ea; subst eb
    rw [Nat.pow_succ] at hx hy ⊢
    have hxa : a < 2 ^ n := by omega
    have hyb : b < 2 ^ n := by omega
    have hc : a ^^^ b < 2 ^ n := Nat.xor_lt_two_pow hxa hyb
    have ha := hor_lt (tb a) n
    have hb := hor_lt (tb b) n
    rw [xor2 hp hq, hor_shift, hor_shift, tbs hp, tbs hq, tb_0 hp, tb_0 hq]
    have h1 : p = 0 ∨ p = 1 := by omega
    have h2 : q = 0 ∨ q = 1 := by omega
    have z : (a ^^^ b) &&& (2 ^ n - (a ^^^ b) - 1) = 0 := by
      have := nx1 n 0 (a ^^^ b) hc (sb_0 _)
      rw [Nat.zero_add, Nat.and_comm] at this
      exact this
    have z2 : (a &&& (a ^^^ b)) &&& (2 ^ n - (a ^^^ b) - 1) = 0 := by rw [Nat.and_assoc, z, Nat.and_zero]
    rcases h1 with e | e <;> rcases h2 with f | f <;> subst e <;> subst f
    · rw [show (0 : Nat) ^^^ 0 = 0 from rfl, and2 (by decide) (by decide), show (0 : Nat) &&& 0 = 0 from rfl, show 2 ^ n * 2 - (2 * (a ^^^ b) + 0) = 2 * (2 ^ n - (a ^^^ b)) + 0 by omega, and2 (by decide) (by decide), show (0 : Nat) &&& 0 = 0 from rfl]
      have ih := rath n a b hxa hyb (by omega)
      rw [← (show (0 * 2 ^ n + hor n (tb b) < 0 * 2 ^ n + hor n (tb a) ↔ hor n (tb b) < hor n (tb a)) by omega)] at ih
      rw [← ih]
      omega
    · rw [show (0 : Nat) ^^^ 1 = 1 from rfl, and2 (by decide) (by decide), show (0 : Nat) &&& 1 = 0 from rfl, show 2 ^ n * 2 - (2 * (a ^^^ b) + 1) = 2 * (2 ^ n - (a ^^^ b) - 1) + 1 by omega, and2 (by decide) (by decide), show (0 : Nat) &&& 1 = 0 from rfl, z2]
      omega
    · rw [show (1 : Nat) ^^^ 0 = 1 from rfl, and2 (by decide) (by decide), show (1 : Nat) &&& 1 = 1 from rfl, show 2 ^ n * 2 - (2 * (a ^^^ b) + 1) = 2 * (2 ^ n - (a ^^^ b) - 1) + 1 by omega, and2 (by decide) (by decide), show (1 : Nat) &&& 1 = 1 from rfl, z2]
      omega
    · rw [show (1 : Nat) ^^^ 1 = 0 from rfl, and2 (by decide) (by decide), show (1 : Nat) &&& 0 = 0 from rfl, show 2 ^ n * 2 - (2 * (a ^^^ b) + 0) = 2 * (2 ^ n - (a ^^^ b)) + 0 by omega, and2 (by decide) (by decide), show (0 : Nat) &&& 0 = 0 from rfl]
      have ih := rath n a b hxa hyb (by omega)
      rw [← (show (1 * 2 ^ n + hor n (tb b) < 1 * 2 ^ n + hor n (tb a) ↔ hor n (tb b) < hor n (tb a)) by omega)] at ih
      rw [← ih]
      omega
theorem cnt98 {x : Nat} (hx : x < 256) : cnt 9 (tb x) = cnt 8 (tb x) := by
  rw [cnt, tb_hi (n := 8) hx (Nat.le_refl _)]; rfl
theorem hor98 {x : Nat} (hx : x < 256) : hor 9 (tb x) = 2 * hor 8 (tb x) := by
  rw [hor, tb_hi (n := 8) hx (Nat.le_refl _)]; rfl
theorem pf_rather {x y : Nat} {w : Int} {T : Sg} (hx : x < 256) (hy : y < 256) : zf_W_rather w (x : Int) (y : Int) T = some (if ned gd 8 (tb y) < ned gd 8 (tb x) then 1 else 0, T) := by
  unfold zf_W_rather
  simp only [pf_Ji_bitCount, zbd_s, zlt_v]
  rw [zbc9 (by omega), zbc9 (by omega), cnt98 hx, cnt98 hy, sco_eq, sco_eq]
  have h1 := hor_lt (tb x) 8
  have h2 := hor_lt (tb y) 8
  rw [show 2 ^ 8 = 256 from rfl] at h1 h2
  by_cases e : cnt 8 (tb x) = cnt 8 (tb y)
  · rw [if_pos (by omega), zxor_n (by omega) (by omega)]
    have hxy : x ^^^ y < 256 := Nat.xor_lt_two_pow (n := 8) hx hy
    rw [zand_n (by omega), zneg_and (Nat.lt_of_le_of_lt Nat.and_le_left (by omega)) (by omega)]
    by_cases exy : x = y
    · subst exy
      rw [Nat.xor_self, Nat.and_zero, Nat.zero_and, if_pos (show ((0 : Nat) : Int) = 0 from rfl), if_neg (by omega)]
    · have r := rath 9 x y (by omega) (by omega) exy
      rw [hor98 hx, hor98 hy, show 2 ^ 9 = 512 from rfl] at r
      by_cases q : (x &&& (x ^^^ y)) &&& (512 - (x ^^^ y)) = 0
      · rw [if_pos (by omega), if_neg (by
          intro z
          exact absurd q (r.mpr (by omega)))]
      · rw [if_neg (by omega), if_pos (by have := r.mp q; omega)]
  · rw [if_neg (by omega)]
    by_cases q : cnt 8 (tb x) ≤ cnt 8 (tb y)
    · rw [if_pos (by omega), if_neg (by omega)]
    · rw [if_neg (by omega), if_pos (by omega)]
/-- the hands and who fits, as the reference holds them -/
def Rw2 (hN ft : Nat → Nat) (nP : Nat) (w : Int) (T : Sg) : Prop := T 5 w 0 25 = (nP : Int) ∧ nP ≤ 8 ∧ ∀ q : Nat, q < nP → T 5 w 22 (q : Int) = (hN q : Int) ∧ T 5 w 38 (q : Int) = (ft q : Int) ∧ ft q < 512 ∧ 1 ≤ hN q ∧ hN q ≤ 3
def fbz (ft : Nat → Nat) (z : Nat) : Nat → Nat
  | 0 => 0
  | q + 1 => fbz ft z q ||| (if z.testBit q = true then ft q else 0)
theorem fbz_lt {ft : Nat → Nat} {z : Nat} : ∀ {q : Nat}, (∀ j, j < q → ft j < 512) → fbz ft z q < 512
  | 0, _ => by simp [fbz]
  | q + 1, h => by
    unfold fbz
    refine or_512 (fbz_lt (fun j hj => h j (by omega))) ?_
    split
    · exact h q (by omega)
    · decide
theorem fbz_fit {ft : Nat → Nat} {z k : Nat} : ∀ (q : Nat), tb (fbz ft z q) k = fit (Fw ft) q (tb z) k
  | 0 => by simp [fbz, fit, tb]
  | q + 1 => by
    rw [fbz, tb_or, fit]
    dsimp only
    rw [fbz_fit q]
    congr 1
    show tb (if z.testBit q = true then ft q else 0) k = (z.testBit q && tb (ft q) k)
    cases z.testBit q with
    | true => simp
    | false => simp [tb]
theorem ned_le {h : Nat → Nat} {z : Nat} : ∀ {n : Nat}, (∀ q, q < n → h q ≤ 3) → ned h n (tb z) ≤ 3 * n
  | 0, _ => Nat.le_refl _
  | n + 1, e => by
    have h1 := ned_le (z := z) (n := n) (fun q hq => e q (by omega))
    have h2 := e n (by omega)
    unfold ned
    split <;> omega
/-- one set of posts: what it wants, who fits it -/
theorem zor_0 {a : Nat} (ha : a < 2147483648) : zor (a : Int) 0 = (a : Int) := by
  have := zor_n (b := 0) ha (by decide)
  rw [Nat.or_zero] at this
  exact this
theorem ned_zero2 {h : Nat → Nat} {n : Nat} : ned h n (tb 0) = 0 := by
  rw [ned_congr (A := tb 0) (B := fun _ => false) n (fun k _ => Nat.zero_testBit k), ned_zero]
theorem w_feas_in {hN ft : Nat → Nat} {nP : Nat} {w : Int} {T : Sg} (hT : Rw2 hN ft nP w T) (K : Int → Int → Int → Sg → Option (Int × Sg)) {z t : Nat} {rest : Int} (hz : z < 256) (ht : t < 512) : ∀ (c q n : Nat), q + c = nP → c < n → zf_W_feasible_25 w K n (t : Int) rest (z : Int) ((ned hN q (tb z) : Nat) : Int) ((fbz ft z q : Nat) : Int) (q : Int) T = (if ned hN nP (tb z) ≤ cnt 9 (tb (nd (fbz ft z nP) t)) then K (t : Int) rest (zand (zw ((z : Int) - 1)) rest) T else some (0, T))
  | _, _, 0, _, hn => absurd hn (Nat.not_lt_zero _)
  | 0, q, n + 1, hq, hn => by
    obtain ⟨h1, h2, h3⟩ := hT
    have e : q = nP := by omega
    subst e
    have hb : fbz ft z q < 512 := fbz_lt (fun j hj => (h3 j hj).2.2.1)
    rw [zf_W_feasible_25, if_pos (by omega), zandn_n (by omega), pf_Ji_bitCount, zbc9 (Nat.lt_of_le_of_lt (nd_le _ _) hb), zbd_s, zlt_v]
    by_cases z : ned hN q (tb z) ≤ cnt 9 (tb (nd (fbz ft z q) t))
    · rw [if_pos (by omega), if_pos z]
    · rw [if_neg (by omega), if_neg z]
  | c + 1, q, n + 1, hq, hn => by
    obtain ⟨h1, h2, h3⟩ := id hT
    have hq' := h3 q (by omega)
    have hb : fbz ft z q < 512 := fbz_lt (fun j hj => (h3 j (by omega)).2.2.1)
    have hnd := ned_le (h := hN) (z := z) (n := q) (fun j hj => (h3 j (by omega)).2.2.2.2)
    have ih := w_feas_in hT K (rest := rest) hz ht c (q + 1) n (by omega) (by omega)
    rw [zf_W_feasible_25, if_neg (by omega), zbit_n (by omega) (by omega)]
    unfold zf_W_feasible_58 zf_W_feasible_85
    rw [zbit_n (by omega) (by omega)]
    have e2 : ned hN (q + 1) (tb z) = ned hN q (tb z) + (if z.testBit q = true then hN q else 0) := rfl
    have e3 : fbz ft z (q + 1) = fbz ft z q ||| (if z.testBit q = true then ft q else 0) := rfl
    rw [e2, e3] at ih
    cases hb2 : z.testBit q with
    | true =>
      rw [hb2] at ih
      simp only [if_true] at ih ⊢
      simp only [zlt_v]
      rw [zck_b (by omega), zck_b (by omega), hq'.1, hq'.2.1, zor_n (by omega) (by omega), zw1 (by omega), zw_in (by omega) (by omega)]
      rw [← ih]
      rfl
    | false =>
      rw [hb2] at ih
      simp only [Bool.false_eq_true, if_false] at ih ⊢
      rw [if_neg (show ¬ ((0 : Int) = 1) by decide)]
      simp only [zlt_v]
      rw [if_neg (show ¬ ((0 : Int) = 1) by decide), zw1 (by omega), zw_in (x := ((ned hN q (tb z) : Nat) : Int) + 0) (by omega) (by omega), zor_0 (by omega)]
      rw [Nat.add_zero, Nat.or_zero] at ih
      rw [← ih, Int.add_zero]
/-- all parts of a set of posts -/
def Okz (hN ft : Nat → Nat) (nP t z : Nat) : Prop := ned hN nP (tb z) ≤ cnt 9 (tb (nd (fbz ft z nP) t))
theorem w_feas_out {hN ft : Nat → Nat} {nP : Nat} {w : Int} {T : Sg} (hT : Rw2 hN ft nP w T) {t rest : Nat} (hr : rest < 256) (ht : t < 512) : ∀ (d x n : Nat), x ≤ d → d < n → Sb x rest → ∃ v, zf_W_feasible_11 w n (t : Int) (rest : Int) (x : Int) T = some (v, T) ∧ (v = 1 ∧ (∀ z, Sb z rest → 0 < z → z ≤ x → Okz hN ft nP t z) ∨ v = 0 ∧ ∃ z, Sb z rest ∧ 0 < z ∧ ¬ Okz hN ft nP t z)
  | _, _, 0, _, hn, _ => absurd hn (Nat.not_lt_zero _)
  | 0, x, n + 1, hx, hn, hs => by
    rw [zf_W_feasible_11, if_pos (by omega)]
    exact ⟨1, rfl, Or.inl ⟨rfl, fun z _ a b => by omega⟩⟩
  | d + 1, x, n + 1, hx, hn, hs => by
    by_cases h0 : x = 0
    · rw [zf_W_feasible_11, if_pos (by omega)]
      exact ⟨1, rfl, Or.inl ⟨rfl, fun z _ a b => by omega⟩⟩
    · have hle := hs.le
      have h8 := hT.2.1
      have hin := w_feas_in hT (zf_W_feasible_11 w n) (z := x) (t := t) (rest := (rest : Int)) (by omega) ht nP 0 4096 (by omega) (by omega)
      rw [zf_W_feasible_11, if_neg (by omega)]
      rw [show ned hN 0 (tb x) = 0 from rfl, show fbz ft x 0 = 0 from rfl, show ((0 : Nat) : Int) = 0 from rfl] at hin
      rw [hin]
      by_cases ok : Okz hN ft nP t x
      · rw [if_pos (show ned hN nP (tb x) ≤ cnt 9 (tb (nd (fbz ft x nP) t)) from ok), zw_in (x := (x : Int) - 1) (by omega) (by omega), show ((x : Int) - 1) = ((x - 1 : Nat) : Int) by omega, zand_n (by omega)]
        have hlt := dn_lt (f := rest) (show 0 < x by omega)
        obtain ⟨v, k1, k2⟩ := w_feas_out hT hr ht d ((x - 1) &&& rest) n (by omega) (by omega) (sb_and _ _)
        refine ⟨v, k1, ?_⟩
        rcases k2 with ⟨a, b⟩ | ⟨a, b⟩
        · refine Or.inl ⟨a, fun z hz hz2 hz3 => ?_⟩
          by_cases e : z = x
          · rw [e]; exact ok
          · exact b z hz hz2 (dn_le 8 x rest z (by omega) (by omega) hs hz (by omega))
        · exact Or.inr ⟨a, b⟩
      · rw [if_neg (show ¬ ned hN nP (tb x) ≤ cnt 9 (tb (nd (fbz ft x nP) t)) from ok)]
        exact ⟨0, rfl, Or.inr ⟨rfl, x, hs, by omega, ok⟩⟩
theorem rstF : ∀ s : Fin 256, ∀ p : Fin 9, zshl (zshr (s.val : Int) (p.val : Int)) (p.val : Int) = ((s.val - s.val % 2 ^ p.val : Nat) : Int) ∧ ∀ q : Fin 8, (s.val - s.val % 2 ^ p.val).testBit q.val = (s.val.testBit q.val && decide (p.val ≤ q.val)) := by decide +kernel
theorem ned_ext {h : Nat → Nat} {A : Nat → Bool} {n m : Nat} (hnm : n ≤ m) (e : ∀ q, n ≤ q → A q = false) : ned h m A = ned h n A := by
  induction m with
  | zero =>
    have : n = 0 := by omega
    subst this
    rfl
  | succ m ih =>
    by_cases z : n = m + 1
    · subst z; rfl
    · rw [ned, ih (by omega), e m (by omega)]
      simp
theorem fit_ext {F : Nat → Nat → Bool} {A : Nat → Bool} {n m k : Nat} (hnm : n ≤ m) (e : ∀ q, n ≤ q → A q = false) : fit F m A k = fit F n A k := by
  induction m with
  | zero =>
    have : n = 0 := by omega
    subst this
    rfl
  | succ m ih =>
    by_cases z : n = m + 1
    · subst z; rfl
    · rw [fit, ih (by omega), e m (by omega)]
      simp
theorem pf_feasible {hN ft : Nat → Nat} {nP : Nat} {w : Int} {T : Sg} (hT : Rw2 hN ft nP w T) {set p t : Nat} (hs : set < 2 ^ nP) (hp : p ≤ 8) (ht : t < 512) : ∃ v, zf_W_feasible w (set : Int) (p : Int) (t : Int) T = some (v, T) ∧ b2 v ∧ (v = 1 ↔ Hal 9 8 hN (Fw ft) (tb set) p (tb t)) := by
  have h8 := hT.2.1
  have p8 : 2 ^ nP ≤ 2 ^ 8 := Nat.pow_le_pow_right (by decide) h8
  have hs256 : set < 256 := by omega
  obtain ⟨r1, r2⟩ := rstF ⟨set, hs256⟩ ⟨p, by omega⟩
  dsimp only at r1 r2
  unfold zf_W_feasible
  rw [r1, zlt_v]
  generalize hrest : set - set % 2 ^ p = rest at r1 r2
  have hr : rest ≤ set := by omega
  obtain ⟨v, k1, k2⟩ := w_feas_out hT (t := t) (rest := rest) (by omega) ht 256 rest 4096 (by omega) (by omega) (by unfold Sb; exact Nat.and_self _)
  -- parts of the rest are sets of posts from p on
  have bits : ∀ q, tb rest q = (tb set q && decide (p ≤ q)) := by
    intro q
    by_cases h : q < 8
    · exact r2 ⟨q, h⟩
    · rw [tb_hi (n := 8) (x := rest) (by omega) (by omega), tb_hi (n := 8) (x := set) hs256 (by omega)]
      rfl
  have okh : ∀ z, z < 2 ^ nP → (Okz hN ft nP t z ↔ ned hN 8 (tb z) ≤ cnt 9 (fun k => fit (Fw ft) 8 (tb z) k && !tb t k)) := by
    intro z hz
    have zq : ∀ q, nP ≤ q → tb z q = false := fun q hq => tb_hi hz hq
    unfold Okz
    rw [ned_ext h8 zq]
    rw [cnt_congr 9 (f := fun k => fit (Fw ft) 8 (tb z) k && !tb t k) (g := tb (nd (fbz ft z nP) t)) (fun k _ => by
      rw [fit_ext h8 zq, ← fbz_fit]
      exact (nd_bit _ _ _).symm)]
  have key : (∀ z, Sb z rest → 0 < z → Okz hN ft nP t z) ↔ Hal 9 8 hN (Fw ft) (tb set) p (tb t) := by
    constructor
    · intro h B hB
      have eB : B = tb (mks 8 B) := by
        funext q
        by_cases z : q < 8
        · exact (mks_bit B 8 q z).symm
        · rw [tb_hi (mks_lt B 8) (by omega)]
          cases e : B q with
          | false => rfl
          | true =>
            have := (hB q e).1
            rw [tb_hi (n := 8) hs256 (by omega)] at this
            cases this
      have sB : Sb (mks 8 B) rest := Sb.of (fun q hq => by
        have h1 : B q = true := by rw [eB]; exact hq
        have := hB q h1
        have h2 := bits q
        rw [this.1, decide_eq_true this.2] at h2
        exact h2)
      rw [eB]
      refine (okh (mks 8 B) (Nat.lt_of_le_of_lt (Nat.le_trans sB.le hr) hs)).mp ?_
      by_cases z : mks 8 B = 0
      · rw [z]
        unfold Okz
        rw [ned_zero2]
        exact Nat.zero_le _
      · exact h _ sB (by omega)
    · intro H z hz _
      refine (okh z (Nat.lt_of_le_of_lt (Nat.le_trans hz.le hr) hs)).mpr ?_
      refine H (tb z) (fun q hq => ?_)
      have := hz.bit hq
      have h2 := bits q
      unfold tb at h2
      rw [this] at h2
      have h3 := (Bool.and_eq_true_iff.mp h2.symm)
      exact ⟨h3.1, of_decide_eq_true h3.2⟩
  refine ⟨v, k1, ?_, ?_⟩
  · rcases k2 with ⟨a, -⟩ | ⟨a, -⟩
    · exact Or.inr a
    · exact Or.inl a
  · rw [← key]
    rcases k2 with ⟨a, b⟩ | ⟨a, z, b1, b2, b3⟩
    · exact ⟨fun _ z hz hz2 => b z hz hz2 hz.le, fun _ => a⟩
    · exact ⟨fun e => by omega, fun h => absurd (h z b1 b2) b3⟩
