/-! ===== small methods, both sides ===== -/
theorem pf_P_has (r x : Int) (S : Sg) : zf_P_has r x S = some (if 0 ≤ x ∧ x < S 0 r 6 0 then 1 else 0, S) := by
  unfold zf_P_has
  split
  · rw [if_neg (by omega)]
  · split
    · rw [if_neg (by omega)]
    · rw [if_pos (by omega)]
theorem pf_M_in (x a b : Int) (S : Sg) : zf_M_in x a b S = some (if a ≤ x ∧ x ≤ b then 1 else 0, S) := by
  unfold zf_M_in
  split
  · rw [if_neg (by omega)]
  · split
    · rw [if_neg (by omega)]
    · rw [if_pos (by omega)]
theorem b01 (p : Prop) [Decidable p] : (if p then (1 : Int) else 0) = 0 ∨ (if p then (1 : Int) else 0) = 1 := by
  split
  · exact Or.inr rfl
  · exact Or.inl rfl
theorem bz (p : Prop) [Decidable p] : ((if p then (1 : Int) else 0) = 0) = ¬ p := by
  by_cases h : p
  · simp [h]
  · simp [h]
theorem zck_b {α : Type} {P : Prop} [Decidable P] {x : Option α} (h : P) : zck P x = x := if_pos h
theorem zbd_s {β : Type} (a : Int) (S : Sg) (k : Int → Sg → Option β) : zbd (some (a, S)) k = k a S := rfl
theorem zlt_v {α β : Type} (x : α) (k : α → Option β) : zlt x k = k x := rfl
theorem zw_in {x : Int} (h1 : -2147483648 ≤ x) (h2 : x < 2147483648) : zw x = x := zw_id ⟨h1, h2⟩
theorem pf_M_isPerson {S : Sg} (x : Int) (h : 0 ≤ S 5 0 0 1 ∧ S 5 0 0 1 ≤ 40) : zf_M_isPerson x S = some (if 0 ≤ x ∧ x < S 5 0 0 1 then 1 else 0, S) := by
  unfold zf_M_isPerson
  rw [pf_M_in, zbd_s, zw_in (by omega) (by omega), zck_b (b01 _)]
  congr 2
  split
  · rw [if_pos (by omega)]
  · rw [if_neg (by omega)]
theorem zdiv_in {x y : Int} (hx : zn x) (hy : 0 < y) : zdiv x y = x.tdiv y := by
  unfold zdiv
  refine zw_id ?_
  unfold zn at *
  have h1 : (x.tdiv y).natAbs = x.natAbs / y.natAbs := Int.natAbs_tdiv x y
  have h2 : x.natAbs / y.natAbs ≤ x.natAbs := Nat.div_le_self _ _
  rw [← h1] at h2
  by_cases h0 : 0 ≤ x
  · have := Int.tdiv_nonneg h0 (Int.le_of_lt hy)
    omega
  · have h3 : 0 ≤ (-x).tdiv y := Int.tdiv_nonneg (by omega) (Int.le_of_lt hy)
    rw [Int.neg_tdiv] at h3
    omega
/-- how old one is -/
def ageS (week birth : Int) : Int := (week - birth).tdiv 52
theorem pf_P_age {S : Sg} {r x w : Int} (hx : 0 ≤ x ∧ x < 40) (h1 : -5000 ≤ S 0 r 7 x ∧ S 0 r 7 x ≤ 400) (hw : 0 ≤ w ∧ w ≤ 400) : zf_P_age r x w S = some (ageS w (S 0 r 7 x), S) := by
  unfold zf_P_age ageS
  rw [zck_b hx, zw_in (by omega) (by omega), zdiv_in (by unfold zn; omega) (by omega)]
theorem pf_W_age {S : Sg} {r x : Int} (hx : 0 ≤ x ∧ x < 40) (h1 : -5000 ≤ S 5 r 1 x ∧ S 5 r 1 x ≤ 400) (hw : 0 ≤ S 5 r 0 0 ∧ S 5 r 0 0 ≤ 400) : zf_W_age r x S = some (ageS (S 5 r 0 0) (S 5 r 1 x), S) := by
  unfold zf_W_age ageS
  rw [zck_b hx, zw_in (by omega) (by omega), zdiv_in (by unfold zn; omega) (by omega)]
/-- what kind one is -/
def kindS (state en birth skills week : Int) : Int :=
  if state = 2 then -2 else if state = 1 then 3 else if en < 0 then (if 16 ≤ ageS week birth then (if ageS week birth < 65 then (if skills = 0 then 0 else 2) else 4) else 1) else 5
theorem pf_P_kind {S : Sg} {r x w : Int} (hx : 0 ≤ x ∧ x < 40) (h1 : -5000 ≤ S 0 r 7 x ∧ S 0 r 7 x ≤ 400) (hw : 0 ≤ w ∧ w ≤ 400) : zf_P_kind r x w S = some (kindS (S 0 r 11 x) (S 0 r 12 x) (S 0 r 7 x) (S 0 r 10 x) w, S) := by
  unfold zf_P_kind kindS
  rw [zck_b hx, zw_in (by omega) (by omega), zdiv_in (by unfold zn; omega) (by omega), zlt_v]
  show _ = some (if S 0 r 11 x = 2 then -2 else if S 0 r 11 x = 1 then 3 else if S 0 r 12 x < 0 then (if 16 ≤ (w - S 0 r 7 x).tdiv 52 then (if (w - S 0 r 7 x).tdiv 52 < 65 then (if S 0 r 10 x = 0 then 0 else 2) else 4) else 1) else 5, S)
  repeat' split
  all_goals rfl
theorem pf_W_kind {S : Sg} {r x : Int} (hx : 0 ≤ x ∧ x < 40) (h1 : -5000 ≤ S 5 r 1 x ∧ S 5 r 1 x ≤ 400) (hw : 0 ≤ S 5 r 0 0 ∧ S 5 r 0 0 ≤ 400) : zf_W_kind r x S = some (kindS (S 5 r 5 x) (S 5 r 6 x) (S 5 r 1 x) (S 5 r 4 x) (S 5 r 0 0), S) := by
  unfold zf_W_kind kindS
  simp only [zck_b hx, pf_W_age hx h1 hw, zbd_s]
  repeat' split
  all_goals rfl
def needS (kind : Int) (post : Bool) : Int := if kind = 0 then 3 else if kind = 1 then 2 else if kind = 4 then 2 else if kind = 2 then (if post then 4 else 3) else if kind = 5 then (if post then 5 else 4) else 0
def wageS (kind : Int) (post : Bool) : Int := if kind = 4 then 2 else if kind = 2 then (if post then 3 else 0) else if kind = 5 then (if post then 6 else 0) else 0
def zbI (b : Bool) : Int := if b then 1 else 0
theorem pf_P_needOf (k : Int) (b : Bool) (S : Sg) : zf_P_needOf k (zbI b) S = some (needS k b, S) := by
  unfold zf_P_needOf needS zbI
  cases b <;> simp <;> repeat' split
  all_goals first | rfl | omega
theorem pf_P_wageOf (k : Int) (b : Bool) (S : Sg) : zf_P_wageOf k (zbI b) S = some (wageS k b, S) := by
  unfold zf_P_wageOf wageS zbI
  cases b <;> simp <;> repeat' split
  all_goals first | rfl | omega
theorem pf_W_need (k : Int) (b : Bool) (S : Sg) : zf_W_need k (zbI b) S = some (needS k b, S) := by
  unfold zf_W_need needS zbI
  cases b <;> simp <;> repeat' split
  all_goals first | rfl | omega
theorem pf_W_wage (k : Int) (b : Bool) (S : Sg) : zf_W_wage k (zbI b) S = some (wageS k b, S) := by
  unfold zf_W_wage wageS zbI
  cases b <;> simp <;> repeat' split
  all_goals first | rfl | omega
