/-! ===== whole numbers for the machine's ints and longs; the memory as a function ===== -/
def zI (x : Int) : Int32 := Int32.ofInt x
def zL (x : Int) : Int64 := Int64.ofInt x
def zn (x : Int) : Prop := -2147483648 ≤ x ∧ x < 2147483648
def zm (x : Int) : Prop := -9223372036854775808 ≤ x ∧ x < 9223372036854775808
def zw (x : Int) : Int := Int.bmod x 4294967296
def zv (x : Int) : Int := Int.bmod x 18446744073709551616
theorem zn_w (x : Int) : zn (zw x) := by
  unfold zn zw
  constructor
  · have := @Int.le_bmod x 4294967296 (by decide); omega
  · have := @Int.bmod_lt x 4294967296 (by decide); omega
theorem zm_v (x : Int) : zm (zv x) := by
  unfold zm zv
  constructor
  · have := @Int.le_bmod x 18446744073709551616 (by decide); omega
  · have := @Int.bmod_lt x 18446744073709551616 (by decide); omega
theorem zw_id {x : Int} (h : zn x) : zw x = x := by
  unfold zn at h
  unfold zw
  exact Int.bmod_eq_of_le (by omega) (by omega)
theorem zv_id {x : Int} (h : zm x) : zv x = x := by
  unfold zm at h
  unfold zv
  exact Int.bmod_eq_of_le (by omega) (by omega)
theorem zm_n {x : Int} (h : zn x) : zm x := by
  unfold zn at h
  unfold zm
  omega
theorem znb {x : Int} (h : (decide (-2147483648 ≤ x) && decide (x < 2147483648)) = true) : zn x := by
  simpa [zn] using h
theorem zmb {x : Int} (h : (decide (-9223372036854775808 ≤ x) && decide (x < 9223372036854775808)) = true) : zm x := by
  simpa [zm] using h
theorem zI_toInt {x : Int} (h : zn x) : (zI x).toInt = x := by
  unfold zI
  rw [Int32.toInt_ofInt]
  exact zw_id h
theorem zL_toInt {x : Int} (h : zm x) : (zL x).toInt = x := by
  unfold zL
  rw [Int64.toInt_ofInt]
  exact zv_id h
theorem zI_of (v : Int32) : zI v.toInt = v := by
  unfold zI
  exact Int32.ofInt_toInt v
theorem zL_of (v : Int64) : zL v.toInt = v := by
  unfold zL
  exact Int64.ofInt_toInt v
theorem zn_of (v : Int32) : zn v.toInt := ⟨Int32.le_toInt v, Int32.toInt_lt v⟩
theorem zm_of (v : Int64) : zm v.toInt := ⟨Int64.le_toInt v, Int64.toInt_lt v⟩
theorem zI_w (x : Int) : zI (zw x) = zI x := by
  apply Int32.toInt_inj.mp
  rw [zI_toInt (zn_w x)]
  unfold zI
  rw [Int32.toInt_ofInt]
  rfl
theorem zL_v (x : Int) : zL (zv x) = zL x := by
  apply Int64.toInt_inj.mp
  rw [zL_toInt (zm_v x)]
  unfold zL
  rw [Int64.toInt_ofInt]
  rfl
theorem zI_add (x y : Int) : zI x + zI y = zI (zw (x + y)) := by
  rw [zI_w]
  exact (Int32.ofInt_add x y).symm
theorem zI_sub (x y : Int) : zI x - zI y = zI (zw (x - y)) := by
  rw [zI_w]
  exact (Int32.ofInt_sub x y).symm
theorem zI_mul (x y : Int) : zI x * zI y = zI (zw (x * y)) := by
  rw [zI_w]
  exact (Int32.ofInt_mul x y).symm
theorem zI_neg (x : Int) : -zI x = zI (zw (-x)) := by
  rw [zI_w]
  exact (Int32.ofInt_neg x).symm
theorem zL_add (x y : Int) : zL x + zL y = zL (zv (x + y)) := by
  rw [zL_v]
  exact (Int64.ofInt_add x y).symm
theorem zL_sub (x y : Int) : zL x - zL y = zL (zv (x - y)) := by
  rw [zL_v]
  exact (Int64.ofInt_sub x y).symm
theorem zL_mul (x y : Int) : zL x * zL y = zL (zv (x * y)) := by
  rw [zL_v]
  exact (Int64.ofInt_mul x y).symm
theorem zI_inj {x y : Int} (hx : zn x) (hy : zn y) : zI x = zI y ↔ x = y := by
  constructor
  · intro h
    have := congrArg Int32.toInt h
    rwa [zI_toInt hx, zI_toInt hy] at this
  · intro h
    rw [h]
theorem zL_inj {x y : Int} (hx : zm x) (hy : zm y) : zL x = zL y ↔ x = y := by
  constructor
  · intro h
    have := congrArg Int64.toInt h
    rwa [zL_toInt hx, zL_toInt hy] at this
  · intro h
    rw [h]
theorem zI_lt {x y : Int} (hx : zn x) (hy : zn y) : zI x < zI y ↔ x < y := by
  rw [Int32.lt_iff_toInt_lt, zI_toInt hx, zI_toInt hy]
theorem zI_le {x y : Int} (hx : zn x) (hy : zn y) : zI x ≤ zI y ↔ x ≤ y := by
  rw [Int32.le_iff_toInt_le, zI_toInt hx, zI_toInt hy]
theorem zL_lt {x y : Int} (hx : zm x) (hy : zm y) : zL x < zL y ↔ x < y := by
  rw [Int64.lt_iff_toInt_lt, zL_toInt hx, zL_toInt hy]
theorem zI_0 : (0 : Int32) = zI 0 := rfl
theorem zn_0 : zn 0 := znb rfl
theorem zI_nat {x : Int} (hx : zn x) : (zI x).toNatClampNeg = x.toNat := by
  show (zI x).toInt.toNat = _
  rw [zI_toInt hx]
theorem zI_div {x y : Int} (hx : zn x) (hy : zn y) : zI x / zI y = zI (zw (x.tdiv y)) := by
  apply Int32.toInt_inj.mp
  rw [Int32.toInt_div, zI_toInt hx, zI_toInt hy, zI_toInt (zn_w _)]
  rfl
theorem zL_div {x y : Int} (hx : zm x) (hy : zm y) : zL x / zL y = zL (zv (x.tdiv y)) := by
  apply Int64.toInt_inj.mp
  rw [Int64.toInt_div, zL_toInt hx, zL_toInt hy, zL_toInt (zm_v _)]
  rfl
/-- what is done with bits, by way of the machine's own words -/
def zand (x y : Int) : Int := (zI x &&& zI y).toInt
def zor (x y : Int) : Int := (zI x ||| zI y).toInt
def zxor (x y : Int) : Int := (zI x ^^^ zI y).toInt
def zshl (x y : Int) : Int := (zI x <<< (zI y &&& 31)).toInt
def zshr (x y : Int) : Int := (zI x >>> (zI y &&& 31)).toInt
def zlnd (x y : Int) : Int := (zL x &&& zL y).toInt
def zlor (x y : Int) : Int := (zL x ||| zL y).toInt
def zlxr (x y : Int) : Int := (zL x ^^^ zL y).toInt
def zlsl (x y : Int) : Int := (zL x <<< ((zI y).toInt64 &&& 63)).toInt
def zlsr (x y : Int) : Int := (zL x >>> ((zI y).toInt64 &&& 63)).toInt
def zlus (x y : Int) : Int := ((zL x).toUInt64 >>> ((zI y).toInt64.toUInt64 &&& Int64.toUInt64 63)).toInt64.toInt
def zi2b (x : Int) : Int := (zI x).toInt8.toInt32.toInt
def zi2s (x : Int) : Int := (zI x).toInt16.toInt32.toInt
def zcmp (x y : Int) : Int := if x < y then -1 else if x = y then 0 else 1
def zdiv (x y : Int) : Int := zw (x.tdiv y)
def zrem (x y : Int) : Int := zw (x - zdiv x y * y)
def zldv (x y : Int) : Int := zv (x.tdiv y)
theorem zn_and (x y : Int) : zn (zand x y) := zn_of _
theorem zn_or (x y : Int) : zn (zor x y) := zn_of _
theorem zn_xor (x y : Int) : zn (zxor x y) := zn_of _
theorem zn_shl (x y : Int) : zn (zshl x y) := zn_of _
theorem zn_shr (x y : Int) : zn (zshr x y) := zn_of _
theorem zn_i2b (x : Int) : zn (zi2b x) := zn_of _
theorem zn_i2s (x : Int) : zn (zi2s x) := zn_of _
theorem zm_lnd (x y : Int) : zm (zlnd x y) := zm_of _
theorem zm_lor (x y : Int) : zm (zlor x y) := zm_of _
theorem zm_lxr (x y : Int) : zm (zlxr x y) := zm_of _
theorem zm_lsl (x y : Int) : zm (zlsl x y) := zm_of _
theorem zm_lsr (x y : Int) : zm (zlsr x y) := zm_of _
theorem zm_lus (x y : Int) : zm (zlus x y) := zm_of _
theorem zn_cmp (x y : Int) : zn (zcmp x y) := by
  unfold zcmp
  split
  · exact znb rfl
  · split
    · exact znb rfl
    · exact znb rfl
theorem zn_div (x y : Int) : zn (zdiv x y) := zn_w _
theorem zn_rem (x y : Int) : zn (zrem x y) := zn_w _
theorem zm_ldv (x y : Int) : zm (zldv x y) := zm_v _
theorem zI_long {x : Int} (hx : zn x) : (zI x).toInt64 = zL x := by
  apply Int64.toInt_inj.mp
  rw [Int32.toInt_toInt64, zI_toInt hx, zL_toInt (zm_n hx)]
theorem zL_int {x : Int} (hx : zm x) : (zL x).toInt32 = zI (zw x) := by
  apply Int32.toInt_inj.mp
  rw [Int64.toInt_toInt32, zL_toInt hx, zI_toInt (zn_w x)]
  rfl
/-- the memory: groups of cells, of each the number, the part, the place -/
abbrev Sg : Type := Nat → Int → Int → Int → Int
def zu (S : Sg) (g : Nat) (r k i v : Int) : Sg := fun g' r' k' i' => if g' = g ∧ r' = r ∧ k' = k ∧ i' = i then v else S g' r' k' i'
/-- n elements of a row, from sp on, come to another row from dp on -/
def zcp (S : Sg) (g : Nat) (r k sp : Int) (g2 : Nat) (r2 k2 dp n : Int) : Sg := fun g' r' k' i' => if g' = g2 ∧ r' = r2 ∧ k' = k2 ∧ dp ≤ i' ∧ i' < dp + n then S g r k (sp + (i' - dp)) else S g' r' k' i'
def zck {α : Type} (P : Prop) [Decidable P] (x : Option α) : Option α := if P then x else none
theorem zck_pos {α : Type} {P : Prop} [Decidable P] {x : Option α} (h : P) : zck P x = x := if_pos h
theorem zck_some {α : Type} {P : Prop} [Decidable P] {x : Option α} {a : α} (h : zck P x = some a) : P ∧ x = some a := by
  unfold zck at h
  split at h
  · exact ⟨by assumption, h⟩
  · cases h
def zbd {β : Type} (x : Option (Int × Sg)) (k : Int → Sg → Option β) : Option β := match x with
  | some (a, S) => k a S
  | none => none
theorem zbd_eq {β : Type} {x : Option (Int × Sg)} {k : Int → Sg → Option β} {a : Int} {S : Sg} (h : x = some (a, S)) : zbd x k = k a S := by
  rw [h]
  rfl
theorem zbd_some {β : Type} {x : Option (Int × Sg)} {k : Int → Sg → Option β} {b : β} (h : zbd x k = some b) : ∃ (a : Int) (S : Sg), x = some (a, S) ∧ k a S = some b := by
  cases x with
  | none => cases h
  | some q => exact ⟨q.1, q.2, rfl, h⟩
