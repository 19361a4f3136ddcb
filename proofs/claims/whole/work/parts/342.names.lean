/-! ===== how many bits a long has ===== -/
theorem tb256 {y b k : Nat} (hb : b < 256) : (256 * y + b).testBit k = if k < 8 then b.testBit k else y.testBit (k - 8) := by
  rw [show 256 * y + b = 2 ^ 8 * y + b by omega]
  exact Nat.testBit_two_pow_mul_add y (by omega) k
theorem and256 {a b p q : Nat} (hp : p < 256) (hq : q < 256) : (256 * a + p) &&& (256 * b + q) = 256 * (a &&& b) + (p &&& q) := by
  have hpq : p &&& q < 256 := Nat.lt_of_le_of_lt Nat.and_le_left hp
  apply Nat.eq_of_testBit_eq
  intro i
  rw [Nat.testBit_and, tb256 hp, tb256 hq, tb256 hpq]
  split
  · rw [Nat.testBit_and]
  · rw [Nat.testBit_and]
def mk8 (c : Nat) : Nat → Nat
  | 0 => 0
  | n + 1 => 256 * mk8 c n + c
def sw1 (n x : Nat) : Nat := x - ((x / 2) &&& mk8 85 n)
def sw2 (n x : Nat) : Nat := (x &&& mk8 51 n) + ((x / 4) &&& mk8 51 n)
def sw3 (n x : Nat) : Nat := (x + x / 16) &&& mk8 15 n
def fb1 (b : Nat) : Nat := b - ((b / 2) &&& 85)
def fb2 (v : Nat) : Nat := (v &&& 51) + ((v / 4) &&& 51)
theorem lf1 : ∀ c : Fin 2, ∀ d : Fin 128, (128 * c.val + d.val) &&& 85 = d.val &&& 85 := by decide +kernel
theorem lf2 : ∀ c : Fin 4, ∀ d : Fin 64, (64 * c.val + d.val) &&& 51 = d.val &&& 51 := by decide +kernel
theorem lf3 : ∀ b : Fin 256, fb1 b.val < 256 ∧ fb2 (fb1 b.val) ≤ 68 ∧ fb2 (fb1 b.val) % 16 ≤ 4 ∧ (fb2 (fb1 b.val) + fb2 (fb1 b.val) / 16) % 16 = cnt 8 (tb b.val) := by decide +kernel
theorem sw1_s {n y b : Nat} (hb : b < 256) : sw1 (n + 1) (256 * y + b) = 256 * sw1 n y + fb1 b := by
  unfold sw1 fb1
  have e : (256 * y + b) / 2 = 256 * (y / 2) + (128 * (y % 2) + b / 2) := by omega
  have l := lf1 ⟨y % 2, Nat.mod_lt _ (by decide)⟩ ⟨b / 2, by omega⟩
  dsimp only at l
  rw [e, mk8, and256 (by omega) (by decide), l]
  have h1 : (y / 2) &&& mk8 85 n ≤ y / 2 := Nat.and_le_left
  have h2 : (b / 2) &&& 85 ≤ b / 2 := Nat.and_le_left
  omega
theorem sw2_s {n u v : Nat} (hv : v < 256) : sw2 (n + 1) (256 * u + v) = 256 * sw2 n u + fb2 v := by
  unfold sw2 fb2
  have e : (256 * u + v) / 4 = 256 * (u / 4) + (64 * (u % 4) + v / 4) := by omega
  have l := lf2 ⟨u % 4, Nat.mod_lt _ (by decide)⟩ ⟨v / 4, by omega⟩
  dsimp only at l
  rw [e, mk8, and256 hv (by decide), and256 (by omega) (by decide), l]
  omega
theorem sw3_s {n u v : Nat} (hv : v ≤ 68) (hu : u % 16 ≤ 4) : sw3 (n + 1) (256 * u + v) = 256 * sw3 n u + (v + v / 16) % 16 := by
  unfold sw3
  have e : 256 * u + v + (256 * u + v) / 16 = 256 * (u + u / 16) + (v + 16 * (u % 16) + v / 16) := by omega
  rw [e, mk8, and256 (by omega) (by decide), show (15 : Nat) = 2 ^ 4 - 1 from rfl, Nat.and_two_pow_sub_one_eq_mod]
  omega
def pcs (n x : Nat) : Nat := sw3 n (sw2 n (sw1 n x))
theorem sw2_mod {n y : Nat} : sw2 n (sw1 n y) % 16 ≤ 4 := by
  cases n with
  | zero => unfold sw2; rw [mk8, Nat.and_zero, Nat.and_zero]; decide
  | succ n =>
    have h := lf3 ⟨y % 256, Nat.mod_lt _ (by decide)⟩
    dsimp only at h
    have e : y = 256 * (y / 256) + y % 256 := by omega
    rw [e, sw1_s (Nat.mod_lt _ (by decide)), sw2_s h.1]
    omega
theorem pcs_s {n y b : Nat} (hb : b < 256) : pcs (n + 1) (256 * y + b) = 256 * pcs n y + cnt 8 (tb b) := by
  have h := lf3 ⟨b, hb⟩
  dsimp only at h
  unfold pcs
  rw [sw1_s hb, sw2_s h.1, sw3_s h.2.1 sw2_mod, h.2.2.2]
theorem cnt_add (f : Nat → Bool) (m : Nat) : ∀ n, cnt (m + n) f = cnt m f + cnt n (fun k => f (m + k))
  | 0 => rfl
  | n + 1 => by
    rw [← Nat.add_assoc, cnt, cnt, cnt_add f m n]
    omega
theorem cnt_256 {n y b : Nat} (hb : b < 256) : cnt (8 + n) (tb (256 * y + b)) = cnt 8 (tb b) + cnt n (tb y) := by
  rw [cnt_add]
  congr 1
  · refine cnt_congr 8 (fun k hk => ?_)
    unfold tb
    rw [tb256 hb, if_pos hk]
  · refine cnt_congr n (fun k _ => ?_)
    unfold tb
    rw [tb256 hb, if_neg (by omega), show 8 + k - 8 = k by omega]
theorem zand127 (x : Nat) : zand (zw (x : Int)) 127 = ((x % 128 : Nat) : Int) := by
  unfold zand
  rw [zI_w, show (127 : Int) = ((127 : Nat) : Int) from rfl]
  refine toI_of (by omega) (fun i hi => ?_)
  rw [Int32.toBitVec_and, BitVec.getLsbD_and, gI x i hi, gI 127 i hi, ← Nat.testBit_and, show (127 : Nat) = 2 ^ 7 - 1 from rfl, Nat.and_two_pow_sub_one_eq_mod]
theorem zv_in {x : Int} (h1 : 0 ≤ x) (h2 : x < 9223372036854775808) : zv x = x := zv_id ⟨by omega, h2⟩
theorem pcs8 : mk8 85 8 = 6148914691236517205 ∧ mk8 51 8 = 3689348814741910323 ∧ mk8 15 8 = 1085102592571150095 := by decide +kernel
theorem sum8 {p0 p1 p2 p3 p4 : Nat} (h0 : p0 ≤ 8) (h1 : p1 ≤ 8) (h2 : p2 ≤ 8) (h3 : p3 ≤ 8) (h4 : p4 ≤ 8) : ∀ a b c d : Nat, a = 256 * (256 * (256 * (256 * p4 + p3) + p2) + p1) + p0 → b = a + a / 256 → c = b + b / 65536 → d = c + c / 4294967296 → d % 128 = p0 + p1 + p2 + p3 + p4 := by
  intro a b c d ea eb ec ed
  have q1 : a / 256 = 256 * (256 * (256 * p4 + p3) + p2) + p1 := by omega
  have q2 : b = 256 * (256 * (256 * (256 * p4 + (p3 + p4)) + (p2 + p3)) + (p1 + p2)) + (p0 + p1) := by omega
  have q3 : b / 65536 = 256 * (256 * p4 + (p3 + p4)) + (p2 + p3) := by omega
  have q4 : c = 256 * (256 * (256 * (256 * p4 + (p3 + p4)) + (p2 + p3 + p4)) + (p1 + p2 + p3 + p4)) + (p0 + p1 + p2 + p3) := by omega
  have q5 : c / 4294967296 = p4 := by omega
  omega
theorem dig {x : Nat} (hx : x < 1099511627776) : ∃ b0 b1 b2 b3 b4 : Nat, b0 < 256 ∧ b1 < 256 ∧ b2 < 256 ∧ b3 < 256 ∧ b4 < 256 ∧ x = 256 * (256 * (256 * (256 * (256 * 0 + b4) + b3) + b2) + b1) + b0 := by
  have s : ∀ y : Nat, ∃ z b, b < 256 ∧ y = 256 * z + b := fun y => ⟨y / 256, y % 256, Nat.mod_lt _ (by decide), by omega⟩
  obtain ⟨x1, b0, h0, e0⟩ := s x
  obtain ⟨x2, b1, h1, e1⟩ := s x1
  obtain ⟨x3, b2, h2, e2⟩ := s x2
  obtain ⟨x4, b3, h3, e3⟩ := s x3
  subst e3
  subst e2
  subst e1
  refine ⟨b0, b1, b2, b3, x4, h0, h1, h2, h3, by omega, by omega⟩
theorem pcs_cnt {x : Nat} (hx : x < 1099511627776) : ∃ p0 p1 p2 p3 p4 : Nat, p0 ≤ 8 ∧ p1 ≤ 8 ∧ p2 ≤ 8 ∧ p3 ≤ 8 ∧ p4 ≤ 8 ∧ pcs 8 x = 256 * (256 * (256 * (256 * p4 + p3) + p2) + p1) + p0 ∧ cnt 40 (tb x) = p0 + p1 + p2 + p3 + p4 := by
  obtain ⟨b0, b1, b2, b3, b4, h0, h1, h2, h3, h4, e⟩ := dig hx
  refine ⟨cnt 8 (tb b0), cnt 8 (tb b1), cnt 8 (tb b2), cnt 8 (tb b3), cnt 8 (tb b4), cnt_le 8 _, cnt_le 8 _, cnt_le 8 _, cnt_le 8 _, cnt_le 8 _, ?_, ?_⟩
  · rw [e, pcs_s h0, pcs_s h1, pcs_s h2, pcs_s h3, pcs_s h4, show pcs 3 0 = 0 by decide, Nat.mul_zero, Nat.zero_add]
  · rw [e, show (40 : Nat) = 8 + (8 + (8 + (8 + (8 + 0)))) from rfl, cnt_256 h0, cnt_256 h1, cnt_256 h2, cnt_256 h3, cnt_256 h4]
    rw [show cnt 0 (tb 0) = 0 from rfl]
    generalize cnt 8 (tb b0) = p0
    generalize cnt 8 (tb b1) = p1
    generalize cnt 8 (tb b2) = p2
    generalize cnt 8 (tb b3) = p3
    generalize cnt 8 (tb b4) = p4
    omega
theorem pf_Jl_bitCount {x : Nat} (hx : x < 1099511627776) (S : Sg) : zf_Jl_bitCount (x : Int) S = some (((cnt 40 (tb x) : Nat) : Int), S) := by
  obtain ⟨m1, m2, m3⟩ := pcs8
  unfold zf_Jl_bitCount
  have a1 : (x / 2) &&& 6148914691236517205 ≤ x / 2 := Nat.and_le_left
  rw [show (1 : Int) = ((1 : Nat) : Int) from rfl, zlus_n (by omega) (by decide), show (6148914691236517205 : Int) = ((6148914691236517205 : Nat) : Int) from rfl, zlnd_n (by omega), show 2 ^ 1 = 2 from rfl, zv_in (by omega) (by omega), zlt_v]
  have e1 : (x : Int) - (((x / 2 &&& 6148914691236517205 : Nat)) : Int) = ((sw1 8 x : Nat) : Int) := by
    unfold sw1
    rw [m1]
    omega
  have h1 : sw1 8 x ≤ x := by unfold sw1; omega
  rw [e1, show (3689348814741910323 : Int) = ((3689348814741910323 : Nat) : Int) from rfl, zlnd_n (by omega), show (2 : Int) = ((2 : Nat) : Int) from rfl, zlus_n (by omega) (by decide), zlnd_n (by omega), show 2 ^ 2 = 4 from rfl]
  have a2 : sw1 8 x &&& 3689348814741910323 ≤ sw1 8 x := Nat.and_le_left
  have a3 : (sw1 8 x / 4) &&& 3689348814741910323 ≤ sw1 8 x / 4 := Nat.and_le_left
  rw [zv_in (by omega) (by omega), zlt_v]
  have e2 : ((sw1 8 x &&& 3689348814741910323 : Nat) : Int) + ((sw1 8 x / 4 &&& 3689348814741910323 : Nat) : Int) = ((sw2 8 (sw1 8 x) : Nat) : Int) := by
    unfold sw2
    rw [m2]
    omega
  have h2 : sw2 8 (sw1 8 x) ≤ 2 * x := by unfold sw2; rw [m2]; omega
  rw [e2, show (4 : Int) = ((4 : Nat) : Int) from rfl, zlus_n (by omega) (by decide), show 2 ^ 4 = 16 from rfl, zv_in (by omega) (by omega), show ((sw2 8 (sw1 8 x) : Nat) : Int) + ((sw2 8 (sw1 8 x) / 16 : Nat) : Int) = ((sw2 8 (sw1 8 x) + sw2 8 (sw1 8 x) / 16 : Nat) : Int) by omega, show (1085102592571150095 : Int) = ((1085102592571150095 : Nat) : Int) from rfl, zlnd_n (by omega), zlt_v]
  have e3 : (sw2 8 (sw1 8 x) + sw2 8 (sw1 8 x) / 16) &&& 1085102592571150095 = pcs 8 x := by
    unfold pcs sw3
    rw [m3]
  rw [e3]
  obtain ⟨p0, p1, p2, p3, p4, l0, l1, l2, l3, l4, ep, ec⟩ := pcs_cnt hx
  have fin := sum8 l0 l1 l2 l3 l4 (pcs 8 x) _ _ _ ep rfl rfl rfl
  have ha : pcs 8 x < 1099511627776 := by rw [ep]; omega
  rw [ec]
  clear ec ep l0 l1 l2 l3 l4 e3 h2 e2 a3 a2 h1 e1 a1 m1 m2 m3
  generalize p0 + p1 + p2 + p3 + p4 = P at *
  generalize pcs 8 x = a at *
  rw [show (8 : Int) = ((8 : Nat) : Int) from rfl, zlus_n (by omega) (by decide), zv_in (by omega) (by omega), zlt_v, show ((a : Nat) : Int) + ((a / 2 ^ 8 : Nat) : Int) = ((a + a / 256 : Nat) : Int) by omega]
  generalize eb : a + a / 256 = b at *
  have hb : b < 2199023255552 := by omega
  rw [show (16 : Int) = ((16 : Nat) : Int) from rfl, zlus_n (by omega) (by decide), zv_in (by omega) (by omega), zlt_v, show ((b : Nat) : Int) + ((b / 2 ^ 16 : Nat) : Int) = ((b + b / 65536 : Nat) : Int) by omega]
  generalize ec2 : b + b / 65536 = c at *
  have hc : c < 4398046511104 := by omega
  rw [show (32 : Int) = ((32 : Nat) : Int) from rfl, zlus_n (by omega) (by decide), zv_in (by omega) (by omega), zlt_v, show ((c : Nat) : Int) + ((c / 2 ^ 32 : Nat) : Int) = ((c + c / 4294967296 : Nat) : Int) by omega, zand127, fin]
