/-! ===== a law's text: what it says, and the reader as lists ===== -/
def jnd (o x y : Int) : Int := if o = -13 then zand x y else if o = -12 then (if x = y then 1 else 0) else if o = -11 then (if x ≤ y then 0 else 1) else if o = -10 then (if y ≤ x then 0 else 1) else if o = -9 then zw (x - y) else if o = -8 then zw (x + y) else zor x y
/-- one step of the judge's, the stack's top first -/
def st1 (f : Int → Int) (x : Int) (k : List Int) : List Int :=
  if x < 0 then (if x < -7 then (if x = -15 then zw (1 - k.headD 0) :: k.tail else jnd x (k.tail.headD 0) (k.headD 0) :: k.tail.tail) else f (-1 - x) :: k) else x :: k
def ev (f : Int → Int) : List Int → List Int → List Int
  | [], k => k
  | x :: e, k => ev f e (st1 f x k)
theorem ev_app (f : Int → Int) : ∀ (a b k : List Int), ev f (a ++ b) k = ev f b (ev f a k)
  | [], _, _ => rfl
  | x :: a, b, k => by
    rw [List.cons_append, ev, ev, ev_app f a b]
/-- the steps e leave v -/
def Ev (f : Int → Int) (e : List Int) (v : Int) : Prop := ∀ k, ev f e k = v :: k
theorem Ev.num {f : Int → Int} {v : Int} (h : 0 ≤ v) : Ev f [v] v := by
  intro k
  show st1 f v k = v :: k
  unfold st1
  rw [if_neg (by omega)]
theorem Ev.fld {f : Int → Int} {v : Int} (h : v < 0) (h7 : -7 ≤ v) : Ev f [v] (f (-1 - v)) := by
  intro k
  show st1 f v k = _
  unfold st1
  rw [if_pos h, if_neg (by omega)]
theorem Ev.un {f : Int → Int} {a : List Int} {x : Int} (h : Ev f a x) : Ev f (a ++ [-15]) (zw (1 - x)) := by
  intro k
  rw [ev_app, h k]
  rfl
theorem Ev.bin {f : Int → Int} {a b : List Int} {x y o : Int} (h : Ev f a x) (h2 : Ev f b y) (ho : o ≤ -8) (ho2 : o ≠ -15) : Ev f (a ++ (b ++ [o])) (jnd o x y) := by
  intro k
  rw [ev_app, h k, ev_app, h2 (x :: k)]
  show st1 f o (y :: x :: k) = _
  unfold st1
  rw [if_pos (by omega), if_pos (by omega), if_neg ho2]
  rfl
def stren (x : Int) : Int := if x = -15 then 3 else if x = -14 then 1 else if x = -13 then 2 else if x = -12 then 4 else if x = -11 then 4 else if x = -10 then 4 else if x = -9 then 5 else if x = -8 then 5 else 0
def fldS (x : Int) : Int := if x = 97 then -1 else if x = 99 then -4 else if x = 100 then -7 else if x = 104 then -3 else if x = 107 then -2 else if x = 115 then -5 else if x = 119 then -6 else 0
theorem pf_R_strength (x : Int) (S : Sg) : zf_R_strength x S = some (stren x, S) := by
  unfold zf_R_strength stren
  repeat' split
  all_goals rfl
theorem pf_R_fieldStep (x : Int) (S : Sg) : zf_R_fieldStep x S = some (fldS x, S) := by
  by_cases h97 : x = 97
  · subst h97
    rfl
  by_cases h99 : x = 99
  · subst h99
    rfl
  by_cases h100 : x = 100
  · subst h100
    rfl
  by_cases h104 : x = 104
  · subst h104
    rfl
  by_cases h107 : x = 107
  · subst h107
    rfl
  by_cases h115 : x = 115
  · subst h115
    rfl
  by_cases h119 : x = 119
  · subst h119
    rfl
  have e : fldS x = 0 := by
    unfold fldS
    rw [if_neg h97, if_neg h99, if_neg h100, if_neg h104, if_neg h107, if_neg h115, if_neg h119]
  rw [e]
  simp only [zf_R_fieldStep, h97, h99, h100, h104, h107, h115, h119, if_false, ite_self]
theorem fldS_le (x : Int) : -7 ≤ fldS x ∧ fldS x ≤ 0 := by
  unfold fldS
  repeat' split
  all_goals omega
/-- a digit -/
abbrev dgt (x : Int) : Prop := 48 ≤ x ∧ x ≤ 57
theorem fldS_dgt {x : Int} (h : dgt x) : fldS x = 0 := by
  obtain ⟨h1, h2⟩ := h
  unfold fldS
  repeat' split
  all_goals first | rfl | omega
/-- the waiting steps (the latest first) that bind as tightly go to the code (the latest first) -/
def unw (lv : Int) : List Int → List Int → List Int × List Int
  | [], c => ([], c)
  | x :: w, c => if stren x < lv then (x :: w, c) else unw lv w (x :: c)
def Spt (lv : Int) : List Int → Prop
  | [] => True
  | x :: _ => stren x < lv
theorem Spt.up {lv lv2 : Int} {w : List Int} (h : Spt lv w) (q : lv ≤ lv2) : Spt lv2 w := by
  cases w with
  | nil => exact trivial
  | cons x w => unfold Spt at h ⊢; omega
theorem unw_app {lv : Int} : ∀ (X w c : List Int), (∀ x ∈ X, lv ≤ stren x) → Spt lv w → unw lv (X ++ w) c = (w, X.reverse ++ c)
  | [], w, c, _, h => by
    cases w with
    | nil => rfl
    | cons x w => exact if_pos h
  | x :: X, w, c, hx, h => by
    have h1 := hx x (List.mem_cons_self ..)
    rw [List.cons_append, unw, if_neg (by omega), unw_app X w (x :: c) (fun y hy => hx y (List.mem_cons_of_mem _ hy)) h]
    simp
theorem unw_len {lv : Int} : ∀ (w c : List Int), (unw lv w c).1.length + (unw lv w c).2.length = w.length + c.length
  | [], c => rfl
  | x :: w, c => by
    unfold unw
    split
    · rfl
    · rw [unw_len w (x :: c)]
      simp only [List.length_cons]
      omega
/-- the reader as lists: its state, what waits, the code, open brackets, digits -/
abbrev Rs : Type := Int × List Int × List Int × Int × Int
def tkD (x st : Int) (w c : List Int) (b d : Int) : Option Rs := if dgt x ∧ 1 ≤ d ∧ d < 4 then (match c with | [] => none | v :: t => if v = 0 then none else some (st, w, zw (zw (zw (10 * v) + x) - 48) :: t, b, zw (d + 1))) else none
def tkA (x t : Int) (w c : List Int) (b : Int) : Option Rs := if dgt x then some (t, w, (x - 48) :: c, b, 1) else if fldS x < 0 then some (t, w, fldS x :: c, b, 0) else none
def tkS (x t : Int) (w c : List Int) (b d : Int) : Option Rs := if x = 43 ∨ x = 45 then some (t, (if x = 43 then -8 else -9) :: (unw 5 w c).1, (unw 5 w c).2, b, d) else none
def cop (x : Int) : Int := if x = 60 then -10 else if x = 62 then -11 else -12
def tkT (x : Int) (w c : List Int) (b d : Int) : Option Rs := if x = 60 ∨ x = 62 ∨ x = 61 then some (5, cop x :: (unw 4 w c).1, (unw 4 w c).2, b, d) else none
def tkJ (x : Int) (w c : List Int) (b d : Int) : Option Rs :=
  if x = 41 ∧ 0 < b then some (7, (unw 1 w c).1.tail, (unw 1 w c).2, b - 1, d)
  else if x = 38 then some (2, -13 :: (unw 2 w c).1, (unw 2 w c).2, b, d)
  else if x = 124 then some (2, -14 :: (unw 1 w c).1, (unw 1 w c).2, b, d) else none
def tk (x st : Int) (w c : List Int) (b d : Int) : Option Rs :=
  if st = 2 then (if x = 33 then some (2, -15 :: w, c, b, d) else if x = 40 ∧ b < 8 then some (2, -16 :: w, c, b + 1, d) else tkA x 4 w c b)
  else if st = 3 then tkA x 4 w c b
  else if st = 4 then (if (tkD x st w c b d).isSome then tkD x st w c b d else if (tkS x 3 w c b d).isSome then tkS x 3 w c b d else tkT x w c b d)
  else if st = 5 then tkA x 6 w c b
  else if st = 6 then (if (tkD x st w c b d).isSome then tkD x st w c b d else if (tkS x 5 w c b d).isSome then tkS x 5 w c b d else tkJ x w c b d)
  else tkJ x w c b d
/-- n letters are left, from place i on -/
def rn (f : Int → Int) : Nat → Int → Rs → Int × Rs
  | 0, i, s => (if 0 < s.2.2.2.1 ∨ s.1 ≠ 6 ∧ s.1 ≠ 7 then i else -2, s)
  | n + 1, i, s => match tk (f i) s.1 s.2.1 s.2.2.1 s.2.2.2.1 s.2.2.2.2 with
    | none => (i, s)
    | some s2 => rn f n (i + 1) s2
theorem tkD_no {x st : Int} {w c : List Int} {b d : Int} (h : d < 1 ∨ ¬ dgt x) : tkD x st w c b d = none := by
  unfold tkD
  rw [if_neg]
  rintro ⟨h1, h2, h3⟩
  rcases h with h | h
  · omega
  · exact h h1
theorem tkS_no {x t : Int} {w c : List Int} {b d : Int} (h1 : x ≠ 43) (h2 : x ≠ 45) : tkS x t w c b d = none := if_neg (by omega)
theorem tk_4 {x : Int} {w c : List Int} {b d : Int} (h : d < 1 ∨ ¬ dgt x) (h1 : x ≠ 43) (h2 : x ≠ 45) : tk x 4 w c b d = tkT x w c b d := by
  unfold tk
  rw [if_neg (by decide), if_neg (by decide), if_pos rfl, tkD_no h, tkS_no h1 h2]
  rfl
theorem tk_6 {x : Int} {w c : List Int} {b d : Int} (h : d < 1 ∨ ¬ dgt x) (h1 : x ≠ 43) (h2 : x ≠ 45) : tk x 6 w c b d = tkJ x w c b d := by
  unfold tk
  rw [if_neg (by decide), if_neg (by decide), if_neg (by decide), if_neg (by decide), if_pos rfl, tkD_no h, tkS_no h1 h2]
  rfl
theorem tk_7 {x : Int} {w c : List Int} {b d : Int} : tk x 7 w c b d = tkJ x w c b d := by
  unfold tk
  rw [if_neg (by decide), if_neg (by decide), if_neg (by decide), if_neg (by decide), if_neg (by decide)]
/-- one letter, taken or not -/
theorem rn_no {f : Int → Int} {n : Nat} {i st : Int} {w c : List Int} {b d : Int} (h : tk (f i) st w c b d = none) : rn f (n + 1) i (st, w, c, b, d) = (i, (st, w, c, b, d)) := by
  unfold rn
  rw [h]
theorem rn_go {f : Int → Int} {n : Nat} {i st : Int} {w c : List Int} {b d : Int} {s : Rs} (h : tk (f i) st w c b d = some s) : rn f (n + 1) i (st, w, c, b, d) = rn f n (i + 1) s := by
  conv => lhs; unfold rn
  rw [h]
