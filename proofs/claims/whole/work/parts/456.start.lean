/-! ===== the start: memory, addresses, world (by wip/whole/gen/start.py) ===== -/
def S0 : Sg := fun g r k i =>
  if g = 0 then (if k = 0 then (if i = 4 then 100 else if i = 5 then 21 else if i = 6 then -1 else 0) else if k = 1 then (if i = 0 then 60 else if i = 1 then 50 else if i = 2 then 10 else if i = 3 then 12 else 0) else if k = 3 then 20 else if k = 4 then 3 else if k = 33 then (if i = 1 then 1 else if i = 2 then 2 else if i = 3 then 3 else 0) else 0)
  else if g = 5 then (if k = 0 then (if i = 15 then 100 else if i = 41 then -2 else 0) else if k = 11 then (if r = 0 then 20 else 0) else if k = 12 then (if r = 0 then 3 else 0) else if k = 26 then (if i = 1 then 1 else if i = 2 then 2 else if i = 3 then 3 else 0) else if k = 30 then (if i = 0 then 60 else if i = 1 then 50 else if i = 2 then 10 else if i = 3 then 12 else 0) else if k = 31 then (if i = 1 then 1 else if i = 2 then 2 else 0) else 0)
  else 0
theorem S0_ok (g : Nat) (r k i : Int) : zok g (S0 g r k i) := by
  have h1 : S0 g r k i = 0 ∨ (g < 20 ∧ -2 ≤ S0 g r k i ∧ S0 g r k i ≤ 100) := by
    unfold S0
    repeat' split
    all_goals first | exact Or.inl rfl | exact Or.inr ⟨by omega, by decide, by decide⟩
  unfold zok
  rcases h1 with h | ⟨h, h2, h3⟩
  · rw [h]
    split
    · exact ⟨by decide, by decide⟩
    · exact ⟨by decide, by decide⟩
  · rw [if_neg (by omega)]
    exact ⟨by omega, by omega⟩
abbrev zTO : Type := (Nat → Nat) × ((Nat → Nat) × (Nat → Nat) × (Nat → Nat) × (Nat → Nat) × (Nat → Nat) × (Nat → Nat) × (Nat → Nat)) × ((Nat → Nat) × (Nat → Nat) × (Nat → Nat) × (Nat → Nat) × (Nat → Nat) × (Nat → Nat) × (Nat → Nat)) × ((Nat → Nat) × (Nat → Nat) × (Nat → Nat) × (Nat → Nat) × (Nat → Nat) × (Nat → Nat) × (Nat → Nat)) × (Nat → Nat) × (Nat → Nat) × (Nat → Nat) × (Nat → Nat) × (Nat → Nat) × (Nat → Nat) × (Nat → Nat) × (Nat → Nat) × (Nat → Nat) × (Nat → Nat) × (Nat → Nat) × (Nat → Nat)
abbrev zTM : Type := (Nat → Nat) × (Nat → Nat) × (Nat → Nat) × (Nat → Nat)
def zTb (hO : Nat) (q : zTO) (hM : Nat) (u : zTM) (ho : Nat) : List (List (List Nat)) := [[[q.1 1, q.2.1.1 0, q.2.1.1 1, q.2.1.1 2, q.2.1.1 3, q.2.1.1 4, q.2.1.1 5, q.2.1.2.1 0, q.2.1.2.1 1, q.2.1.2.1 2, q.2.1.2.1 3, q.2.1.2.1 4, q.2.1.2.1 5, q.2.1.2.1 6, q.2.1.2.1 7, q.2.1.2.1 8, q.2.1.1 6, q.2.1.2.2.1 0, q.2.1.2.2.1 1, q.2.1.2.2.1 2, q.2.1.2.2.1 3, q.2.1.2.2.1 4, q.2.1.2.2.1 5, q.2.1.2.2.1 6, q.2.1.2.2.1 7, q.2.1.2.2.1 8, q.2.1.1 7, q.2.1.2.2.2.1 0, q.2.1.2.2.2.1 1, q.2.1.2.2.2.1 2, q.2.1.2.2.2.1 3, q.2.1.1 8, q.2.1.2.2.2.2.1 0, q.2.1.2.2.2.2.1 1, q.2.1.2.2.2.2.1 2, q.2.1.2.2.2.2.1 3, q.2.1.2.2.2.2.1 4], [q.1 2, q.2.2.1.1 0, q.2.2.1.1 1, q.2.2.1.1 2, q.2.2.1.1 3, q.2.2.1.1 4, q.2.2.1.1 5, q.2.2.1.2.1 0, q.2.2.1.2.1 1, q.2.2.1.2.1 2, q.2.2.1.2.1 3, q.2.2.1.2.1 4, q.2.2.1.2.1 5, q.2.2.1.2.1 6, q.2.2.1.2.1 7, q.2.2.1.2.1 8, q.2.2.1.1 6, q.2.2.1.2.2.1 0, q.2.2.1.2.2.1 1, q.2.2.1.2.2.1 2, q.2.2.1.2.2.1 3, q.2.2.1.2.2.1 4, q.2.2.1.2.2.1 5, q.2.2.1.2.2.1 6, q.2.2.1.2.2.1 7, q.2.2.1.2.2.1 8, q.2.2.1.1 7, q.2.2.1.2.2.2.1 0, q.2.2.1.2.2.2.1 1, q.2.2.1.2.2.2.1 2, q.2.2.1.2.2.2.1 3, q.2.2.1.1 8, q.2.2.1.2.2.2.2.1 0, q.2.2.1.2.2.2.2.1 1, q.2.2.1.2.2.2.2.1 2, q.2.2.1.2.2.2.2.1 3, q.2.2.1.2.2.2.2.1 4], [q.1 3, q.2.2.2.1.1 0, q.2.2.2.1.1 1, q.2.2.2.1.1 2, q.2.2.2.1.1 3, q.2.2.2.1.1 4, q.2.2.2.1.1 5, q.2.2.2.1.2.1 0, q.2.2.2.1.2.1 1, q.2.2.2.1.2.1 2, q.2.2.2.1.2.1 3, q.2.2.2.1.2.1 4, q.2.2.2.1.2.1 5, q.2.2.2.1.2.1 6, q.2.2.2.1.2.1 7, q.2.2.2.1.2.1 8, q.2.2.2.1.1 6, q.2.2.2.1.2.2.1 0, q.2.2.2.1.2.2.1 1, q.2.2.2.1.2.2.1 2, q.2.2.2.1.2.2.1 3, q.2.2.2.1.2.2.1 4, q.2.2.2.1.2.2.1 5, q.2.2.2.1.2.2.1 6, q.2.2.2.1.2.2.1 7, q.2.2.2.1.2.2.1 8, q.2.2.2.1.1 7, q.2.2.2.1.2.2.2.1 0, q.2.2.2.1.2.2.2.1 1, q.2.2.2.1.2.2.2.1 2, q.2.2.2.1.2.2.2.1 3, q.2.2.2.1.1 8, q.2.2.2.1.2.2.2.2.1 0, q.2.2.2.1.2.2.2.2.1 1, q.2.2.2.1.2.2.2.2.1 2, q.2.2.2.1.2.2.2.2.1 3, q.2.2.2.1.2.2.2.2.1 4]],
  [[(q.1 0) + 1 + 0], [(q.1 0) + 1 + 1], [(q.1 0) + 1 + 2], [(q.1 0) + 1 + 3], [(q.1 0) + 1 + 4], [(q.1 0) + 1 + 5], [(q.1 0) + 1 + 6], [(q.1 0) + 1 + 7], [(q.1 0) + 1 + 8], [(q.1 0) + 1 + 9], [(q.1 0) + 1 + 10], [(q.1 0) + 1 + 11]],
  [[q.1 6, q.2.2.2.2.1 0], [q.1 7, q.2.2.2.2.2.1 0], [q.1 8, q.2.2.2.2.2.2.1 0], [q.1 9, q.2.2.2.2.2.2.2.1 0], [q.1 10, q.2.2.2.2.2.2.2.2.1 0], [q.1 11, q.2.2.2.2.2.2.2.2.2.1 0], [q.1 12, q.2.2.2.2.2.2.2.2.2.2.1 0], [q.1 13, q.2.2.2.2.2.2.2.2.2.2.2.1 0]],
  [[hO, q.1 4, q.1 0, q.1 5, q.1 14, q.2.2.2.2.2.2.2.2.2.2.2.2.1 0, q.2.2.2.2.2.2.2.2.2.2.2.2.1 1, q.1 15, q.2.2.2.2.2.2.2.2.2.2.2.2.2.1 0, q.2.2.2.2.2.2.2.2.2.2.2.2.2.1 1, q.1 16, q.2.2.2.2.2.2.2.2.2.2.2.2.2.2.1 2, q.2.2.2.2.2.2.2.2.2.2.2.2.2.2.1 4, q.2.2.2.2.2.2.2.2.2.2.2.2.2.2.1 5, q.2.2.2.2.2.2.2.2.2.2.2.2.2.2.1 6, q.1 17, q.2.2.2.2.2.2.2.2.2.2.2.2.2.2.2 0, q.2.2.2.2.2.2.2.2.2.2.2.2.2.2.2 1, q.2.2.2.2.2.2.2.2.2.2.2.2.2.2.2 2, q.2.2.2.2.2.2.2.2.2.2.2.2.2.2.2 3, q.2.2.2.2.2.2.2.2.2.2.2.2.2.2.2 4, q.2.2.2.2.2.2.2.2.2.2.2.2.2.2.1 7]],
  [[(q.2.2.2.2.2.2.2.2.2.2.2.2.2.2.1 7) + 1 + 0], [(q.2.2.2.2.2.2.2.2.2.2.2.2.2.2.1 7) + 1 + 1], [(q.2.2.2.2.2.2.2.2.2.2.2.2.2.2.1 7) + 1 + 2], [(q.2.2.2.2.2.2.2.2.2.2.2.2.2.2.1 7) + 1 + 3], [(q.2.2.2.2.2.2.2.2.2.2.2.2.2.2.1 7) + 1 + 4], [(q.2.2.2.2.2.2.2.2.2.2.2.2.2.2.1 7) + 1 + 5], [(q.2.2.2.2.2.2.2.2.2.2.2.2.2.2.1 7) + 1 + 6], [(q.2.2.2.2.2.2.2.2.2.2.2.2.2.2.1 7) + 1 + 7], [(q.2.2.2.2.2.2.2.2.2.2.2.2.2.2.1 7) + 1 + 8]],
  [[u.1 0, u.2.1 0, u.2.1 1, u.2.1 2, u.2.1 3, u.2.1 4, u.2.1 5, u.2.1 6, u.2.1 7, u.2.1 8, u.2.1 9, u.2.1 10, u.2.1 11, u.2.1 12, u.2.1 14, u.2.1 15, u.2.1 16, u.2.1 17, u.2.1 18, u.2.1 19, u.2.1 20, u.2.1 21, u.2.1 22, u.2.1 23, u.2.1 24, u.2.1 25, u.2.1 26, u.2.1 27, u.2.1 28, u.2.1 29, u.2.1 30, u.2.1 31, u.2.1 32, u.2.1 33, u.2.1 36, u.2.1 37, u.2.1 38, u.2.1 40, u.2.1 41, u.2.1 42, u.2.1 43, u.2.1 13, u.2.1 34, u.2.1 35], [u.1 1, u.2.2.1 0, u.2.2.1 1, u.2.2.1 2, u.2.2.1 3, u.2.2.1 4, u.2.2.1 5, u.2.2.1 6, u.2.2.1 7, u.2.2.1 8, u.2.2.1 9, u.2.2.1 10, u.2.2.1 11, u.2.2.1 12, u.2.2.1 14, u.2.2.1 15, u.2.2.1 16, u.2.2.1 17, u.2.2.1 18, u.2.2.1 19, u.2.2.1 20, u.2.2.1 21, u.2.2.1 22, u.2.2.1 23, u.2.2.1 24, u.2.2.1 25, u.2.2.1 26, u.2.2.1 27, u.2.2.1 28, u.2.2.1 29, u.2.2.1 30, u.2.2.1 31, u.2.2.1 32, u.2.2.1 33, u.2.2.1 36, u.2.2.1 37, u.2.2.1 38, u.2.2.1 40, u.2.2.1 41, u.2.2.1 42, u.2.2.1 43, u.2.2.1 13, u.2.2.1 34, u.2.2.1 35], [u.1 2, u.2.2.2 0, u.2.2.2 1, u.2.2.2 2, u.2.2.2 3, u.2.2.2 4, u.2.2.2 5, u.2.2.2 6, u.2.2.2 7, u.2.2.2 8, u.2.2.2 9, u.2.2.2 10, u.2.2.2 11, u.2.2.2 12, u.2.2.2 14, u.2.2.2 15, u.2.2.2 16, u.2.2.2 17, u.2.2.2 18, u.2.2.2 19, u.2.2.2 20, u.2.2.2 21, u.2.2.2 22, u.2.2.2 23, u.2.2.2 24, u.2.2.2 25, u.2.2.2 26, u.2.2.2 27, u.2.2.2 28, u.2.2.2 29, u.2.2.2 30, u.2.2.2 31, u.2.2.2 32, u.2.2.2 33, u.2.2.2 36, u.2.2.2 37, u.2.2.2 38, u.2.2.2 40, u.2.2.2 41, u.2.2.2 42, u.2.2.2 43, u.2.2.2 13, u.2.2.2 34, u.2.2.2 35]],
  [[(u.2.1 13) + 1 + 0, (u.2.1 13) + 1 + 1, (u.2.1 13) + 1 + 2, (u.2.1 13) + 1 + 3, (u.2.1 13) + 1 + 4, (u.2.1 13) + 1 + 5, (u.2.1 13) + 1 + 6, (u.2.1 13) + 1 + 7, (u.2.1 13) + 1 + 8, (u.2.1 13) + 1 + 9, (u.2.1 13) + 1 + 10, (u.2.1 13) + 1 + 11], [(u.2.2.1 13) + 1 + 0, (u.2.2.1 13) + 1 + 1, (u.2.2.1 13) + 1 + 2, (u.2.2.1 13) + 1 + 3, (u.2.2.1 13) + 1 + 4, (u.2.2.1 13) + 1 + 5, (u.2.2.1 13) + 1 + 6, (u.2.2.1 13) + 1 + 7, (u.2.2.1 13) + 1 + 8, (u.2.2.1 13) + 1 + 9, (u.2.2.1 13) + 1 + 10, (u.2.2.1 13) + 1 + 11], [(u.2.2.2 13) + 1 + 0, (u.2.2.2 13) + 1 + 1, (u.2.2.2 13) + 1 + 2, (u.2.2.2 13) + 1 + 3, (u.2.2.2 13) + 1 + 4, (u.2.2.2 13) + 1 + 5, (u.2.2.2 13) + 1 + 6, (u.2.2.2 13) + 1 + 7, (u.2.2.2 13) + 1 + 8, (u.2.2.2 13) + 1 + 9, (u.2.2.2 13) + 1 + 10, (u.2.2.2 13) + 1 + 11]],
  [[(u.2.1 34) + 1 + 0, (u.2.1 34) + 1 + 1], [(u.2.2.1 34) + 1 + 0, (u.2.2.1 34) + 1 + 1], [(u.2.2.2 34) + 1 + 0, (u.2.2.2 34) + 1 + 1]],
  [[(u.2.1 35) + 1 + 0, (u.2.1 35) + 1 + 1, (u.2.1 35) + 1 + 2, (u.2.1 35) + 1 + 3, (u.2.1 35) + 1 + 4], [(u.2.2.1 35) + 1 + 0, (u.2.2.1 35) + 1 + 1, (u.2.2.1 35) + 1 + 2, (u.2.2.1 35) + 1 + 3, (u.2.2.1 35) + 1 + 4], [(u.2.2.2 35) + 1 + 0, (u.2.2.2 35) + 1 + 1, (u.2.2.2 35) + 1 + 2, (u.2.2.2 35) + 1 + 3, (u.2.2.2 35) + 1 + 4]],
  [[hM, u.1 3, u.1 4, u.1 5, u.1 6, u.1 7]],
  [[(u.1 6) + 1 + 0], [(u.1 6) + 1 + 1], [(u.1 6) + 1 + 2], [(u.1 6) + 1 + 3], [(u.1 6) + 1 + 4], [(u.1 6) + 1 + 5], [(u.1 6) + 1 + 6], [(u.1 6) + 1 + 7]],
  [[(u.1 7) + 1 + 0], [(u.1 7) + 1 + 1], [(u.1 7) + 1 + 2], [(u.1 7) + 1 + 3], [(u.1 7) + 1 + 4], [(u.1 7) + 1 + 5], [(u.1 7) + 1 + 6], [(u.1 7) + 1 + 7]],
  [],
  [[q.2.1.1 9, q.2.1.1 10], [q.2.2.1.1 9, q.2.2.1.1 10], [q.2.2.2.1.1 9, q.2.2.2.1.1 10]],
  [[q.2.1.2.2.2.2.2.1 0, q.2.1.2.2.2.2.2.2 0], [q.2.2.1.2.2.2.2.2.1 0, q.2.2.1.2.2.2.2.2.2 0], [q.2.2.2.1.2.2.2.2.2.1 0, q.2.2.2.1.2.2.2.2.2.2 0]],
  [],
  [],
  [],
  [],
  [],
  [[q.2.2.2.2.2.2.2.2.2.2.2.2.2.2.1 0, q.2.2.2.2.2.2.2.2.2.2.2.2.2.2.1 1, q.2.2.2.2.2.2.2.2.2.2.2.2.2.2.1 3]],
  [[u.2.1 39], [u.2.2.1 39], [u.2.2.2 39]],
  [[ho]]]
def zAd (T : List (List (List Nat))) (g : Nat) (r k : Int) : Nat := ((T.getD g []).getD r.toNat []).getD k.toNat 0
def zB2 (B : zB) (T : List (List (List Nat))) : zB := (B.1, zAd T, B.2.2)
def zoO : List (Nat × Int × Int) := [(3, 0, 0), (3, 0, 3), (3, 0, 15), (3, 0, 20), (3, 0, 19), (3, 0, 18), (3, 0, 17), (3, 0, 16), (3, 0, 10), (3, 0, 21), (4, 0, 0), (4, 1, 0), (4, 2, 0), (4, 3, 0), (4, 4, 0), (4, 5, 0), (4, 6, 0), (4, 7, 0), (4, 8, 0), (3, 0, 14), (3, 0, 13), (3, 0, 12), (20, 0, 2), (3, 0, 11), (20, 0, 1), (20, 0, 0), (3, 0, 7), (3, 0, 9), (3, 0, 8), (3, 0, 4), (3, 0, 6), (3, 0, 5), (2, 7, 0), (2, 7, 1), (2, 6, 0), (2, 6, 1), (2, 5, 0), (2, 5, 1), (2, 4, 0), (2, 4, 1), (2, 3, 0), (2, 3, 1), (2, 2, 0), (2, 2, 1), (2, 1, 0), (2, 1, 1), (2, 0, 0), (2, 0, 1), (3, 0, 1), (0, 2, 0), (13, 2, 1), (14, 2, 1), (13, 2, 0), (14, 2, 0), (0, 2, 31), (0, 2, 36), (0, 2, 35), (0, 2, 34), (0, 2, 33), (0, 2, 32), (0, 2, 26), (0, 2, 30), (0, 2, 29), (0, 2, 28), (0, 2, 27), (0, 2, 16), (0, 2, 25), (0, 2, 24), (0, 2, 23), (0, 2, 22), (0, 2, 21), (0, 2, 20), (0, 2, 19), (0, 2, 18), (0, 2, 17), (0, 2, 6), (0, 2, 15), (0, 2, 14), (0, 2, 13), (0, 2, 12), (0, 2, 11), (0, 2, 10), (0, 2, 9), (0, 2, 8), (0, 2, 7), (0, 2, 5), (0, 2, 4), (0, 2, 3), (0, 2, 2), (0, 2, 1), (0, 1, 0), (13, 1, 1), (14, 1, 1), (13, 1, 0), (14, 1, 0), (0, 1, 31), (0, 1, 36), (0, 1, 35), (0, 1, 34), (0, 1, 33), (0, 1, 32), (0, 1, 26), (0, 1, 30), (0, 1, 29), (0, 1, 28), (0, 1, 27), (0, 1, 16), (0, 1, 25), (0, 1, 24), (0, 1, 23), (0, 1, 22), (0, 1, 21), (0, 1, 20), (0, 1, 19), (0, 1, 18), (0, 1, 17), (0, 1, 6), (0, 1, 15), (0, 1, 14), (0, 1, 13), (0, 1, 12), (0, 1, 11), (0, 1, 10), (0, 1, 9), (0, 1, 8), (0, 1, 7), (0, 1, 5), (0, 1, 4), (0, 1, 3), (0, 1, 2), (0, 1, 1), (0, 0, 0), (13, 0, 1), (14, 0, 1), (13, 0, 0), (14, 0, 0), (0, 0, 31), (0, 0, 36), (0, 0, 35), (0, 0, 34), (0, 0, 33), (0, 0, 32), (0, 0, 26), (0, 0, 30), (0, 0, 29), (0, 0, 28), (0, 0, 27), (0, 0, 16), (0, 0, 25), (0, 0, 24), (0, 0, 23), (0, 0, 22), (0, 0, 21), (0, 0, 20), (0, 0, 19), (0, 0, 18), (0, 0, 17), (0, 0, 6), (0, 0, 15), (0, 0, 14), (0, 0, 13), (0, 0, 12), (0, 0, 11), (0, 0, 10), (0, 0, 9), (0, 0, 8), (0, 0, 7), (0, 0, 5), (0, 0, 4), (0, 0, 3), (0, 0, 2), (0, 0, 1), (3, 0, 2), (1, 0, 0), (1, 1, 0), (1, 2, 0), (1, 3, 0), (1, 4, 0), (1, 5, 0), (1, 6, 0), (1, 7, 0), (1, 8, 0), (1, 9, 0), (1, 10, 0), (1, 11, 0)]
def zoM : List (Nat × Int × Int) := [(9, 0, 0), (5, 0, 0), (5, 0, 11), (5, 0, 12), (9, 0, 5), (11, 0, 0), (11, 1, 0), (11, 2, 0), (11, 3, 0), (11, 4, 0), (11, 5, 0), (11, 6, 0), (11, 7, 0), (9, 0, 4), (10, 0, 0), (10, 1, 0), (10, 2, 0), (10, 3, 0), (10, 4, 0), (10, 5, 0), (10, 6, 0), (10, 7, 0), (9, 0, 3), (9, 0, 2), (9, 0, 1), (5, 2, 0), (5, 2, 11), (5, 2, 12), (5, 2, 40), (5, 2, 39), (5, 2, 38), (5, 2, 37), (21, 2, 0), (5, 2, 36), (5, 2, 35), (5, 2, 34), (5, 2, 43), (8, 2, 0), (8, 2, 1), (8, 2, 2), (8, 2, 3), (8, 2, 4), (5, 2, 42), (7, 2, 0), (7, 2, 1), (5, 2, 33), (5, 2, 32), (5, 2, 31), (5, 2, 30), (5, 2, 29), (5, 2, 28), (5, 2, 27), (5, 2, 26), (5, 2, 25), (5, 2, 24), (5, 2, 23), (5, 2, 22), (5, 2, 21), (5, 2, 20), (5, 2, 19), (5, 2, 18), (5, 2, 17), (5, 2, 16), (5, 2, 15), (5, 2, 14), (5, 2, 41), (6, 2, 0), (6, 2, 1), (6, 2, 2), (6, 2, 3), (6, 2, 4), (6, 2, 5), (6, 2, 6), (6, 2, 7), (6, 2, 8), (6, 2, 9), (6, 2, 10), (6, 2, 11), (5, 2, 13), (5, 2, 10), (5, 2, 9), (5, 2, 8), (5, 2, 7), (5, 2, 6), (5, 2, 5), (5, 2, 4), (5, 2, 3), (5, 2, 2), (5, 2, 1), (5, 1, 0), (5, 1, 11), (5, 1, 12), (5, 1, 40), (5, 1, 39), (5, 1, 38), (5, 1, 37), (21, 1, 0), (5, 1, 36), (5, 1, 35), (5, 1, 34), (5, 1, 43), (8, 1, 0), (8, 1, 1), (8, 1, 2), (8, 1, 3), (8, 1, 4), (5, 1, 42), (7, 1, 0), (7, 1, 1), (5, 1, 33), (5, 1, 32), (5, 1, 31), (5, 1, 30), (5, 1, 29), (5, 1, 28), (5, 1, 27), (5, 1, 26), (5, 1, 25), (5, 1, 24), (5, 1, 23), (5, 1, 22), (5, 1, 21), (5, 1, 20), (5, 1, 19), (5, 1, 18), (5, 1, 17), (5, 1, 16), (5, 1, 15), (5, 1, 14), (5, 1, 41), (6, 1, 0), (6, 1, 1), (6, 1, 2), (6, 1, 3), (6, 1, 4), (6, 1, 5), (6, 1, 6), (6, 1, 7), (6, 1, 8), (6, 1, 9), (6, 1, 10), (6, 1, 11), (5, 1, 13), (5, 1, 10), (5, 1, 9), (5, 1, 8), (5, 1, 7), (5, 1, 6), (5, 1, 5), (5, 1, 4), (5, 1, 3), (5, 1, 2), (5, 1, 1), (5, 0, 40), (5, 0, 39), (5, 0, 38), (5, 0, 37), (21, 0, 0), (5, 0, 36), (5, 0, 35), (5, 0, 34), (5, 0, 43), (8, 0, 0), (8, 0, 1), (8, 0, 2), (8, 0, 3), (8, 0, 4), (5, 0, 42), (7, 0, 0), (7, 0, 1), (5, 0, 33), (5, 0, 32), (5, 0, 31), (5, 0, 30), (5, 0, 29), (5, 0, 28), (5, 0, 27), (5, 0, 26), (5, 0, 25), (5, 0, 24), (5, 0, 23), (5, 0, 22), (5, 0, 21), (5, 0, 20), (5, 0, 19), (5, 0, 18), (5, 0, 17), (5, 0, 16), (5, 0, 15), (5, 0, 14), (5, 0, 41), (6, 0, 0), (6, 0, 1), (6, 0, 2), (6, 0, 3), (6, 0, 4), (6, 0, 5), (6, 0, 6), (6, 0, 7), (6, 0, 8), (6, 0, 9), (6, 0, 10), (6, 0, 11), (5, 0, 13), (5, 0, 10), (5, 0, 9), (5, 0, 8), (5, 0, 7), (5, 0, 6), (5, 0, 5), (5, 0, 4), (5, 0, 3), (5, 0, 2), (5, 0, 1)]
def zoL : List (Nat × Int × Int) := zoO ++ (zoM ++ [(22, 0, 0)])
theorem zoL_perm : zix.Perm zoL := List.isPerm_iff.mp (by decide +kernel)
def zsm (x y : Nat × va_E) : Prop := x.1 = y.1 ∧ ∀ (D : va_G) (cl : List vw_C) (H : Heap), va_at D cl x H → va_at D cl y H
def zsl : va_W → va_W → Prop
  | [], [] => True
  | x :: a, y :: b => zsm x y ∧ zsl a b
  | _, _ => False
theorem zsr {x y : Nat × va_E} (h : x = y) : zsm x y := h ▸ ⟨rfl, fun _ _ _ h => h⟩
theorem zsi {a : Nat} {c : ClassId} {n : Nat} {f g : Nat → Int32} {y : Nat × va_E} (e : y = (a, .inl (c, n, .inl g))) (h : ∀ j, j < n → f j = g j) : zsm (a, .inl (c, n, .inl f)) y := by
  subst e
  exact ⟨rfl, fun D cl H h9 => by
    have e := zc_ext (cA := c) h
    exact h9.trans (by rw [e])⟩
theorem zc_extq {cA : ClassId} {n : Nat} {f g : Nat → Option Nat} (h : ∀ j, j < n → f j = g j) : vp_cell cA (n, .inr (.inr (.inr (.inr f)))) = vp_cell cA (n, .inr (.inr (.inr (.inr g)))) := by
  rw [vp_cell_q, vp_cell_q]
  unfold arrV
  congr 1
  apply Array.ext
  · simp
  · intro i h1 h2
    simp at h1
    simp [h i h1]
theorem zsq {a : Nat} {c : ClassId} {n : Nat} {f g : Nat → Option Nat} {y : Nat × va_E} (e : y = (a, .inl (c, n, .inr (.inr (.inr (.inr g)))))) (h : ∀ j, j < n → f j = g j) : zsm (a, .inl (c, n, .inr (.inr (.inr (.inr f))))) y := by
  subst e
  exact ⟨rfl, fun D cl H h9 => by
    have e := zc_extq (cA := c) h
    exact h9.trans (by rw [e])⟩
theorem zsl_app : ∀ {a b c d : va_W}, zsl a b → zsl c d → zsl (a ++ c) (b ++ d)
  | [], [], _, _, _, h => h
  | _ :: _, _ :: _, _, _, h, h2 => ⟨h.1, zsl_app h.2 h2⟩
  | [], _ :: _, _, _, h, _ => h.elim
  | _ :: _, [], _, _, h, _ => h.elim
theorem zsl_P : ∀ {a b : va_W} {D : va_G} {cl : List vw_C} {H : Heap}, zsl a b → (∀ x ∈ a, va_at D cl x H) → ∀ y ∈ b, va_at D cl y H
  | [], [], _, _, _, _, _, y, hy => by cases hy
  | x :: a, y :: b, D, cl, H, h, h2, z, hz => by
    cases hz with
    | head => exact h.1.2 D cl H (h2 x (List.mem_cons_self ..))
    | tail _ hz => exact zsl_P h.2 (fun w hw => h2 w (List.mem_cons_of_mem _ hw)) z hz
  | [], _ :: _, _, _, _, h, _, _, _ => h.elim
  | _ :: _, [], _, _, _, h, _, _, _ => h.elim
theorem zsl_fst : ∀ {a b : va_W}, zsl a b → a.map Prod.fst = b.map Prod.fst
  | [], [], _ => rfl
  | x :: a, y :: b, h => by rw [List.map_cons, List.map_cons, h.1.1, zsl_fst h.2]
  | [], _ :: _, h => h.elim
  | _ :: _, [], h => h.elim
def zoe (B : zB) (S : Sg) (q : Nat × Int × Int) : Nat × va_E := (B.2.1 q.1 q.2.1 q.2.2, zco B S q.1 q.2.1 q.2.2)
set_option maxHeartbeats 4000000 in
set_option maxRecDepth 100000 in
theorem zs_O (B : zB) (hO : Nat) (q : zTO) (hM : Nat) (u : zTM) (ho : Nat) : zsl (ww_O B hO q) (zoO.map (zoe (zB2 B (zTb hO q hM u ho)) S0)) := by
  refine ⟨zsr rfl, ?_⟩
  refine ⟨zsq rfl (fun j hj => by rcases (show j = 0 ∨ j = 1 ∨ j = 2 ∨ j = 3 ∨ j = 4 ∨ j = 5 ∨ j = 6 ∨ j = 7 by omega) with rfl | rfl | rfl | rfl | rfl | rfl | rfl | rfl <;> rfl), ?_⟩
  refine ⟨zsr rfl, ?_⟩
  refine ⟨zsr rfl, ?_⟩
  refine ⟨zsr rfl, ?_⟩
  refine ⟨zsr rfl, ?_⟩
  refine ⟨zsr rfl, ?_⟩
  refine ⟨zsr rfl, ?_⟩
  refine ⟨zsr rfl, ?_⟩
  refine ⟨zsq rfl (fun j hj => by rcases (show j = 0 ∨ j = 1 ∨ j = 2 ∨ j = 3 ∨ j = 4 ∨ j = 5 ∨ j = 6 ∨ j = 7 ∨ j = 8 by omega) with rfl | rfl | rfl | rfl | rfl | rfl | rfl | rfl | rfl <;> rfl), ?_⟩
  refine ⟨zsr rfl, ?_⟩
  refine ⟨zsr rfl, ?_⟩
  refine ⟨zsr rfl, ?_⟩
  refine ⟨zsr rfl, ?_⟩
  refine ⟨zsr rfl, ?_⟩
  refine ⟨zsr rfl, ?_⟩
  refine ⟨zsr rfl, ?_⟩
  refine ⟨zsr rfl, ?_⟩
  refine ⟨zsr rfl, ?_⟩
  refine ⟨zsr rfl, ?_⟩
  refine ⟨zsr rfl, ?_⟩
  refine ⟨zsr rfl, ?_⟩
  refine ⟨zsr rfl, ?_⟩
  refine ⟨zsr rfl, ?_⟩
  refine ⟨zsr rfl, ?_⟩
  refine ⟨zsr rfl, ?_⟩
  refine ⟨zsr rfl, ?_⟩
  refine ⟨zsr rfl, ?_⟩
  refine ⟨zsr rfl, ?_⟩
  refine ⟨zsr rfl, ?_⟩
  refine ⟨zsr rfl, ?_⟩
  refine ⟨zsr rfl, ?_⟩
  refine ⟨zsr rfl, ?_⟩
  refine ⟨zsr rfl, ?_⟩
  refine ⟨zsr rfl, ?_⟩
  refine ⟨zsr rfl, ?_⟩
  refine ⟨zsr rfl, ?_⟩
  refine ⟨zsr rfl, ?_⟩
  refine ⟨zsr rfl, ?_⟩
  refine ⟨zsr rfl, ?_⟩
  refine ⟨zsr rfl, ?_⟩
  refine ⟨zsr rfl, ?_⟩
  refine ⟨zsr rfl, ?_⟩
  refine ⟨zsr rfl, ?_⟩
  refine ⟨zsr rfl, ?_⟩
  refine ⟨zsr rfl, ?_⟩
  refine ⟨zsr rfl, ?_⟩
  refine ⟨zsr rfl, ?_⟩
  refine ⟨zsr rfl, ?_⟩
  refine ⟨zsr rfl, ?_⟩
  refine ⟨zsr rfl, ?_⟩
  refine ⟨zsr rfl, ?_⟩
  refine ⟨zsr rfl, ?_⟩
  refine ⟨zsr rfl, ?_⟩
  refine ⟨zsr rfl, ?_⟩
  refine ⟨zsr rfl, ?_⟩
  refine ⟨zsr rfl, ?_⟩
  refine ⟨zsr rfl, ?_⟩
  refine ⟨zsi rfl (fun j hj => by rcases (show j = 0 ∨ j = 1 ∨ j = 2 ∨ j = 3 by omega) with rfl | rfl | rfl | rfl <;> rfl), ?_⟩
  refine ⟨zsr rfl, ?_⟩
  refine ⟨zsr rfl, ?_⟩
  refine ⟨zsr rfl, ?_⟩
  refine ⟨zsr rfl, ?_⟩
  refine ⟨zsr rfl, ?_⟩
  refine ⟨zsr rfl, ?_⟩
  refine ⟨zsr rfl, ?_⟩
  refine ⟨zsr rfl, ?_⟩
  refine ⟨zsr rfl, ?_⟩
  refine ⟨zsr rfl, ?_⟩
  refine ⟨zsr rfl, ?_⟩
  refine ⟨zsr rfl, ?_⟩
  refine ⟨zsr rfl, ?_⟩
  refine ⟨zsr rfl, ?_⟩
  refine ⟨zsr rfl, ?_⟩
  refine ⟨zsr rfl, ?_⟩
  refine ⟨zsr rfl, ?_⟩
  refine ⟨zsr rfl, ?_⟩
  refine ⟨zsr rfl, ?_⟩
  refine ⟨zsr rfl, ?_⟩
  refine ⟨zsr rfl, ?_⟩
  refine ⟨zsr rfl, ?_⟩
  refine ⟨zsr rfl, ?_⟩
  refine ⟨zsr rfl, ?_⟩
  refine ⟨zsr rfl, ?_⟩
  refine ⟨zsr rfl, ?_⟩
  refine ⟨zsr rfl, ?_⟩
  refine ⟨zsi rfl (fun j hj => by rcases (show j = 0 ∨ j = 1 ∨ j = 2 ∨ j = 3 ∨ j = 4 ∨ j = 5 ∨ j = 6 ∨ j = 7 ∨ j = 8 ∨ j = 9 ∨ j = 10 ∨ j = 11 by omega) with rfl | rfl | rfl | rfl | rfl | rfl | rfl | rfl | rfl | rfl | rfl | rfl <;> rfl), ?_⟩
  refine ⟨zsi rfl (fun j hj => by rcases (show j = 0 ∨ j = 1 ∨ j = 2 ∨ j = 3 ∨ j = 4 ∨ j = 5 ∨ j = 6 ∨ j = 7 ∨ j = 8 ∨ j = 9 ∨ j = 10 ∨ j = 11 by omega) with rfl | rfl | rfl | rfl | rfl | rfl | rfl | rfl | rfl | rfl | rfl | rfl <;> rfl), ?_⟩
  refine ⟨zsr rfl, ?_⟩
  refine ⟨zsi rfl (fun j hj => by rcases (show j = 0 ∨ j = 1 ∨ j = 2 ∨ j = 3 by omega) with rfl | rfl | rfl | rfl <;> rfl), ?_⟩
  refine ⟨zsr rfl, ?_⟩
  refine ⟨zsr rfl, ?_⟩
  refine ⟨zsr rfl, ?_⟩
  refine ⟨zsr rfl, ?_⟩
  refine ⟨zsr rfl, ?_⟩
  refine ⟨zsr rfl, ?_⟩
  refine ⟨zsr rfl, ?_⟩
  refine ⟨zsr rfl, ?_⟩
  refine ⟨zsr rfl, ?_⟩
  refine ⟨zsi rfl (fun j hj => by rcases (show j = 0 ∨ j = 1 ∨ j = 2 ∨ j = 3 by omega) with rfl | rfl | rfl | rfl <;> rfl), ?_⟩
  refine ⟨zsr rfl, ?_⟩
  refine ⟨zsr rfl, ?_⟩
  refine ⟨zsr rfl, ?_⟩
  refine ⟨zsr rfl, ?_⟩
  refine ⟨zsr rfl, ?_⟩
  refine ⟨zsr rfl, ?_⟩
  refine ⟨zsr rfl, ?_⟩
  refine ⟨zsr rfl, ?_⟩
  refine ⟨zsr rfl, ?_⟩
  refine ⟨zsr rfl, ?_⟩
  refine ⟨zsr rfl, ?_⟩
  refine ⟨zsr rfl, ?_⟩
  refine ⟨zsr rfl, ?_⟩
  refine ⟨zsr rfl, ?_⟩
  refine ⟨zsr rfl, ?_⟩
  refine ⟨zsr rfl, ?_⟩
  refine ⟨zsr rfl, ?_⟩
  refine ⟨zsr rfl, ?_⟩
  refine ⟨zsr rfl, ?_⟩
  refine ⟨zsr rfl, ?_⟩
  refine ⟨zsr rfl, ?_⟩
  refine ⟨zsr rfl, ?_⟩
  refine ⟨zsr rfl, ?_⟩
  refine ⟨zsr rfl, ?_⟩
  refine ⟨zsr rfl, ?_⟩
  refine ⟨zsr rfl, ?_⟩
  refine ⟨zsr rfl, ?_⟩
  refine ⟨zsi rfl (fun j hj => by rcases (show j = 0 ∨ j = 1 ∨ j = 2 ∨ j = 3 ∨ j = 4 ∨ j = 5 ∨ j = 6 ∨ j = 7 ∨ j = 8 ∨ j = 9 ∨ j = 10 ∨ j = 11 by omega) with rfl | rfl | rfl | rfl | rfl | rfl | rfl | rfl | rfl | rfl | rfl | rfl <;> rfl), ?_⟩
  refine ⟨zsi rfl (fun j hj => by rcases (show j = 0 ∨ j = 1 ∨ j = 2 ∨ j = 3 ∨ j = 4 ∨ j = 5 ∨ j = 6 ∨ j = 7 ∨ j = 8 ∨ j = 9 ∨ j = 10 ∨ j = 11 by omega) with rfl | rfl | rfl | rfl | rfl | rfl | rfl | rfl | rfl | rfl | rfl | rfl <;> rfl), ?_⟩
  refine ⟨zsr rfl, ?_⟩
  refine ⟨zsi rfl (fun j hj => by rcases (show j = 0 ∨ j = 1 ∨ j = 2 ∨ j = 3 by omega) with rfl | rfl | rfl | rfl <;> rfl), ?_⟩
  refine ⟨zsr rfl, ?_⟩
  refine ⟨zsr rfl, ?_⟩
  refine ⟨zsr rfl, ?_⟩
  refine ⟨zsr rfl, ?_⟩
  refine ⟨zsr rfl, ?_⟩
  refine ⟨zsr rfl, ?_⟩
  refine ⟨zsr rfl, ?_⟩
  refine ⟨zsr rfl, ?_⟩
  refine ⟨zsr rfl, ?_⟩
  refine ⟨zsi rfl (fun j hj => by rcases (show j = 0 ∨ j = 1 ∨ j = 2 ∨ j = 3 by omega) with rfl | rfl | rfl | rfl <;> rfl), ?_⟩
  refine ⟨zsr rfl, ?_⟩
  refine ⟨zsr rfl, ?_⟩
  refine ⟨zsr rfl, ?_⟩
  refine ⟨zsr rfl, ?_⟩
  refine ⟨zsr rfl, ?_⟩
  refine ⟨zsr rfl, ?_⟩
  refine ⟨zsr rfl, ?_⟩
  refine ⟨zsr rfl, ?_⟩
  refine ⟨zsr rfl, ?_⟩
  refine ⟨zsr rfl, ?_⟩
  refine ⟨zsr rfl, ?_⟩
  refine ⟨zsr rfl, ?_⟩
  refine ⟨zsr rfl, ?_⟩
  refine ⟨zsr rfl, ?_⟩
  refine ⟨zsr rfl, ?_⟩
  refine ⟨zsr rfl, ?_⟩
  refine ⟨zsr rfl, ?_⟩
  refine ⟨zsr rfl, ?_⟩
  refine ⟨zsr rfl, ?_⟩
  refine ⟨zsr rfl, ?_⟩
  refine ⟨zsr rfl, ?_⟩
  refine ⟨zsr rfl, ?_⟩
  refine ⟨zsr rfl, ?_⟩
  refine ⟨zsr rfl, ?_⟩
  refine ⟨zsr rfl, ?_⟩
  refine ⟨zsr rfl, ?_⟩
  refine ⟨zsr rfl, ?_⟩
  refine ⟨zsi rfl (fun j hj => by rcases (show j = 0 ∨ j = 1 ∨ j = 2 ∨ j = 3 ∨ j = 4 ∨ j = 5 ∨ j = 6 ∨ j = 7 ∨ j = 8 ∨ j = 9 ∨ j = 10 ∨ j = 11 by omega) with rfl | rfl | rfl | rfl | rfl | rfl | rfl | rfl | rfl | rfl | rfl | rfl <;> rfl), ?_⟩
  refine ⟨zsi rfl (fun j hj => by rcases (show j = 0 ∨ j = 1 ∨ j = 2 ∨ j = 3 ∨ j = 4 ∨ j = 5 ∨ j = 6 ∨ j = 7 ∨ j = 8 ∨ j = 9 ∨ j = 10 ∨ j = 11 by omega) with rfl | rfl | rfl | rfl | rfl | rfl | rfl | rfl | rfl | rfl | rfl | rfl <;> rfl), ?_⟩
  refine ⟨zsr rfl, ?_⟩
  refine ⟨zsi rfl (fun j hj => by rcases (show j = 0 ∨ j = 1 ∨ j = 2 ∨ j = 3 by omega) with rfl | rfl | rfl | rfl <;> rfl), ?_⟩
  refine ⟨zsq rfl (fun j hj => by rcases (show j = 0 ∨ j = 1 ∨ j = 2 ∨ j = 3 ∨ j = 4 ∨ j = 5 ∨ j = 6 ∨ j = 7 ∨ j = 8 ∨ j = 9 ∨ j = 10 ∨ j = 11 by omega) with rfl | rfl | rfl | rfl | rfl | rfl | rfl | rfl | rfl | rfl | rfl | rfl <;> rfl), ?_⟩
  refine ⟨zsr rfl, ?_⟩
  refine ⟨zsr rfl, ?_⟩
  refine ⟨zsr rfl, ?_⟩
  refine ⟨zsr rfl, ?_⟩
  refine ⟨zsr rfl, ?_⟩
  refine ⟨zsr rfl, ?_⟩
  refine ⟨zsr rfl, ?_⟩
  refine ⟨zsr rfl, ?_⟩
  refine ⟨zsr rfl, ?_⟩
  refine ⟨zsr rfl, ?_⟩
  refine ⟨zsr rfl, ?_⟩
  refine ⟨zsr rfl, ?_⟩
  trivial
set_option maxHeartbeats 4000000 in
set_option maxRecDepth 100000 in
theorem zs_M (B : zB) (hO : Nat) (q : zTO) (hM : Nat) (u : zTM) (ho : Nat) : zsl (ww_M B hM u) (zoM.map (zoe (zB2 B (zTb hO q hM u ho)) S0)) := by
  refine ⟨zsr rfl, ?_⟩
  refine ⟨zsr rfl, ?_⟩
  refine ⟨zsi rfl (fun j hj => by rcases (show j = 0 ∨ j = 1 ∨ j = 2 ∨ j = 3 ∨ j = 4 ∨ j = 5 ∨ j = 6 ∨ j = 7 ∨ j = 8 ∨ j = 9 ∨ j = 10 ∨ j = 11 by omega) with rfl | rfl | rfl | rfl | rfl | rfl | rfl | rfl | rfl | rfl | rfl | rfl <;> rfl), ?_⟩
  refine ⟨zsi rfl (fun j hj => by rcases (show j = 0 ∨ j = 1 ∨ j = 2 ∨ j = 3 ∨ j = 4 ∨ j = 5 ∨ j = 6 ∨ j = 7 ∨ j = 8 ∨ j = 9 ∨ j = 10 ∨ j = 11 by omega) with rfl | rfl | rfl | rfl | rfl | rfl | rfl | rfl | rfl | rfl | rfl | rfl <;> rfl), ?_⟩
  refine ⟨zsq rfl (fun j hj => by rcases (show j = 0 ∨ j = 1 ∨ j = 2 ∨ j = 3 ∨ j = 4 ∨ j = 5 ∨ j = 6 ∨ j = 7 by omega) with rfl | rfl | rfl | rfl | rfl | rfl | rfl | rfl <;> rfl), ?_⟩
  refine ⟨zsr rfl, ?_⟩
  refine ⟨zsr rfl, ?_⟩
  refine ⟨zsr rfl, ?_⟩
  refine ⟨zsr rfl, ?_⟩
  refine ⟨zsr rfl, ?_⟩
  refine ⟨zsr rfl, ?_⟩
  refine ⟨zsr rfl, ?_⟩
  refine ⟨zsr rfl, ?_⟩
  refine ⟨zsq rfl (fun j hj => by rcases (show j = 0 ∨ j = 1 ∨ j = 2 ∨ j = 3 ∨ j = 4 ∨ j = 5 ∨ j = 6 ∨ j = 7 by omega) with rfl | rfl | rfl | rfl | rfl | rfl | rfl | rfl <;> rfl), ?_⟩
  refine ⟨zsr rfl, ?_⟩
  refine ⟨zsr rfl, ?_⟩
  refine ⟨zsr rfl, ?_⟩
  refine ⟨zsr rfl, ?_⟩
  refine ⟨zsr rfl, ?_⟩
  refine ⟨zsr rfl, ?_⟩
  refine ⟨zsr rfl, ?_⟩
  refine ⟨zsr rfl, ?_⟩
  refine ⟨zsr rfl, ?_⟩
  refine ⟨zsr rfl, ?_⟩
  refine ⟨zsr rfl, ?_⟩
  refine ⟨zsr rfl, ?_⟩
  refine ⟨zsr rfl, ?_⟩
  refine ⟨zsr rfl, ?_⟩
  refine ⟨zsr rfl, ?_⟩
  refine ⟨zsr rfl, ?_⟩
  refine ⟨zsr rfl, ?_⟩
  refine ⟨zsr rfl, ?_⟩
  refine ⟨zsr rfl, ?_⟩
  refine ⟨zsr rfl, ?_⟩
  refine ⟨zsr rfl, ?_⟩
  refine ⟨zsr rfl, ?_⟩
  refine ⟨zsq rfl (fun j hj => by rcases (show j = 0 ∨ j = 1 ∨ j = 2 ∨ j = 3 ∨ j = 4 by omega) with rfl | rfl | rfl | rfl | rfl <;> rfl), ?_⟩
  refine ⟨zsr rfl, ?_⟩
  refine ⟨zsr rfl, ?_⟩
  refine ⟨zsr rfl, ?_⟩
  refine ⟨zsr rfl, ?_⟩
  refine ⟨zsr rfl, ?_⟩
  refine ⟨zsq rfl (fun j hj => by rcases (show j = 0 ∨ j = 1 by omega) with rfl | rfl <;> rfl), ?_⟩
  refine ⟨zsr rfl, ?_⟩
  refine ⟨zsr rfl, ?_⟩
  refine ⟨zsr rfl, ?_⟩
  refine ⟨zsi rfl (fun j hj => by rcases (show j = 0 ∨ j = 1 by omega) with rfl | rfl <;> rfl), ?_⟩
  refine ⟨zsi rfl (fun j hj => by rcases (show j = 0 ∨ j = 1 ∨ j = 2 by omega) with rfl | rfl | rfl <;> rfl), ?_⟩
  refine ⟨zsi rfl (fun j hj => by rcases (show j = 0 ∨ j = 1 ∨ j = 2 ∨ j = 3 by omega) with rfl | rfl | rfl | rfl <;> rfl), ?_⟩
  refine ⟨zsr rfl, ?_⟩
  refine ⟨zsr rfl, ?_⟩
  refine ⟨zsr rfl, ?_⟩
  refine ⟨zsi rfl (fun j hj => by rcases (show j = 0 ∨ j = 1 ∨ j = 2 ∨ j = 3 by omega) with rfl | rfl | rfl | rfl <;> rfl), ?_⟩
  refine ⟨zsr rfl, ?_⟩
  refine ⟨zsr rfl, ?_⟩
  refine ⟨zsr rfl, ?_⟩
  refine ⟨zsr rfl, ?_⟩
  refine ⟨zsr rfl, ?_⟩
  refine ⟨zsr rfl, ?_⟩
  refine ⟨zsr rfl, ?_⟩
  refine ⟨zsr rfl, ?_⟩
  refine ⟨zsr rfl, ?_⟩
  refine ⟨zsr rfl, ?_⟩
  refine ⟨zsr rfl, ?_⟩
  refine ⟨zsr rfl, ?_⟩
  refine ⟨zsq rfl (fun j hj => by rcases (show j = 0 ∨ j = 1 ∨ j = 2 ∨ j = 3 ∨ j = 4 ∨ j = 5 ∨ j = 6 ∨ j = 7 ∨ j = 8 ∨ j = 9 ∨ j = 10 ∨ j = 11 by omega) with rfl | rfl | rfl | rfl | rfl | rfl | rfl | rfl | rfl | rfl | rfl | rfl <;> rfl), ?_⟩
  refine ⟨zsr rfl, ?_⟩
  refine ⟨zsr rfl, ?_⟩
  refine ⟨zsr rfl, ?_⟩
  refine ⟨zsr rfl, ?_⟩
  refine ⟨zsr rfl, ?_⟩
  refine ⟨zsr rfl, ?_⟩
  refine ⟨zsr rfl, ?_⟩
  refine ⟨zsr rfl, ?_⟩
  refine ⟨zsr rfl, ?_⟩
  refine ⟨zsr rfl, ?_⟩
  refine ⟨zsr rfl, ?_⟩
  refine ⟨zsr rfl, ?_⟩
  refine ⟨zsr rfl, ?_⟩
  refine ⟨zsr rfl, ?_⟩
  refine ⟨zsr rfl, ?_⟩
  refine ⟨zsr rfl, ?_⟩
  refine ⟨zsr rfl, ?_⟩
  refine ⟨zsr rfl, ?_⟩
  refine ⟨zsr rfl, ?_⟩
  refine ⟨zsr rfl, ?_⟩
  refine ⟨zsr rfl, ?_⟩
  refine ⟨zsr rfl, ?_⟩
  refine ⟨zsr rfl, ?_⟩
  refine ⟨zsr rfl, ?_⟩
  refine ⟨zsr rfl, ?_⟩
  refine ⟨zsr rfl, ?_⟩
  refine ⟨zsr rfl, ?_⟩
  refine ⟨zsr rfl, ?_⟩
  refine ⟨zsr rfl, ?_⟩
  refine ⟨zsr rfl, ?_⟩
  refine ⟨zsr rfl, ?_⟩
  refine ⟨zsr rfl, ?_⟩
  refine ⟨zsr rfl, ?_⟩
  refine ⟨zsr rfl, ?_⟩
  refine ⟨zsq rfl (fun j hj => by rcases (show j = 0 ∨ j = 1 ∨ j = 2 ∨ j = 3 ∨ j = 4 by omega) with rfl | rfl | rfl | rfl | rfl <;> rfl), ?_⟩
  refine ⟨zsr rfl, ?_⟩
  refine ⟨zsr rfl, ?_⟩
  refine ⟨zsr rfl, ?_⟩
  refine ⟨zsr rfl, ?_⟩
  refine ⟨zsr rfl, ?_⟩
  refine ⟨zsq rfl (fun j hj => by rcases (show j = 0 ∨ j = 1 by omega) with rfl | rfl <;> rfl), ?_⟩
  refine ⟨zsr rfl, ?_⟩
  refine ⟨zsr rfl, ?_⟩
  refine ⟨zsr rfl, ?_⟩
  refine ⟨zsi rfl (fun j hj => by rcases (show j = 0 ∨ j = 1 by omega) with rfl | rfl <;> rfl), ?_⟩
  refine ⟨zsi rfl (fun j hj => by rcases (show j = 0 ∨ j = 1 ∨ j = 2 by omega) with rfl | rfl | rfl <;> rfl), ?_⟩
  refine ⟨zsi rfl (fun j hj => by rcases (show j = 0 ∨ j = 1 ∨ j = 2 ∨ j = 3 by omega) with rfl | rfl | rfl | rfl <;> rfl), ?_⟩
  refine ⟨zsr rfl, ?_⟩
  refine ⟨zsr rfl, ?_⟩
  refine ⟨zsr rfl, ?_⟩
  refine ⟨zsi rfl (fun j hj => by rcases (show j = 0 ∨ j = 1 ∨ j = 2 ∨ j = 3 by omega) with rfl | rfl | rfl | rfl <;> rfl), ?_⟩
  refine ⟨zsr rfl, ?_⟩
  refine ⟨zsr rfl, ?_⟩
  refine ⟨zsr rfl, ?_⟩
  refine ⟨zsr rfl, ?_⟩
  refine ⟨zsr rfl, ?_⟩
  refine ⟨zsr rfl, ?_⟩
  refine ⟨zsr rfl, ?_⟩
  refine ⟨zsr rfl, ?_⟩
  refine ⟨zsr rfl, ?_⟩
  refine ⟨zsr rfl, ?_⟩
  refine ⟨zsr rfl, ?_⟩
  refine ⟨zsr rfl, ?_⟩
  refine ⟨zsq rfl (fun j hj => by rcases (show j = 0 ∨ j = 1 ∨ j = 2 ∨ j = 3 ∨ j = 4 ∨ j = 5 ∨ j = 6 ∨ j = 7 ∨ j = 8 ∨ j = 9 ∨ j = 10 ∨ j = 11 by omega) with rfl | rfl | rfl | rfl | rfl | rfl | rfl | rfl | rfl | rfl | rfl | rfl <;> rfl), ?_⟩
  refine ⟨zsr rfl, ?_⟩
  refine ⟨zsr rfl, ?_⟩
  refine ⟨zsr rfl, ?_⟩
  refine ⟨zsr rfl, ?_⟩
  refine ⟨zsr rfl, ?_⟩
  refine ⟨zsr rfl, ?_⟩
  refine ⟨zsr rfl, ?_⟩
  refine ⟨zsr rfl, ?_⟩
  refine ⟨zsr rfl, ?_⟩
  refine ⟨zsr rfl, ?_⟩
  refine ⟨zsr rfl, ?_⟩
  refine ⟨zsr rfl, ?_⟩
  refine ⟨zsr rfl, ?_⟩
  refine ⟨zsr rfl, ?_⟩
  refine ⟨zsr rfl, ?_⟩
  refine ⟨zsr rfl, ?_⟩
  refine ⟨zsr rfl, ?_⟩
  refine ⟨zsr rfl, ?_⟩
  refine ⟨zsr rfl, ?_⟩
  refine ⟨zsr rfl, ?_⟩
  refine ⟨zsr rfl, ?_⟩
  refine ⟨zsr rfl, ?_⟩
  refine ⟨zsr rfl, ?_⟩
  refine ⟨zsr rfl, ?_⟩
  refine ⟨zsr rfl, ?_⟩
  refine ⟨zsr rfl, ?_⟩
  refine ⟨zsr rfl, ?_⟩
  refine ⟨zsr rfl, ?_⟩
  refine ⟨zsr rfl, ?_⟩
  refine ⟨zsr rfl, ?_⟩
  refine ⟨zsr rfl, ?_⟩
  refine ⟨zsq rfl (fun j hj => by rcases (show j = 0 ∨ j = 1 ∨ j = 2 ∨ j = 3 ∨ j = 4 by omega) with rfl | rfl | rfl | rfl | rfl <;> rfl), ?_⟩
  refine ⟨zsr rfl, ?_⟩
  refine ⟨zsr rfl, ?_⟩
  refine ⟨zsr rfl, ?_⟩
  refine ⟨zsr rfl, ?_⟩
  refine ⟨zsr rfl, ?_⟩
  refine ⟨zsq rfl (fun j hj => by rcases (show j = 0 ∨ j = 1 by omega) with rfl | rfl <;> rfl), ?_⟩
  refine ⟨zsr rfl, ?_⟩
  refine ⟨zsr rfl, ?_⟩
  refine ⟨zsr rfl, ?_⟩
  refine ⟨zsi rfl (fun j hj => by rcases (show j = 0 ∨ j = 1 by omega) with rfl | rfl <;> rfl), ?_⟩
  refine ⟨zsi rfl (fun j hj => by rcases (show j = 0 ∨ j = 1 ∨ j = 2 by omega) with rfl | rfl | rfl <;> rfl), ?_⟩
  refine ⟨zsi rfl (fun j hj => by rcases (show j = 0 ∨ j = 1 ∨ j = 2 ∨ j = 3 by omega) with rfl | rfl | rfl | rfl <;> rfl), ?_⟩
  refine ⟨zsr rfl, ?_⟩
  refine ⟨zsr rfl, ?_⟩
  refine ⟨zsr rfl, ?_⟩
  refine ⟨zsi rfl (fun j hj => by rcases (show j = 0 ∨ j = 1 ∨ j = 2 ∨ j = 3 by omega) with rfl | rfl | rfl | rfl <;> rfl), ?_⟩
  refine ⟨zsr rfl, ?_⟩
  refine ⟨zsr rfl, ?_⟩
  refine ⟨zsr rfl, ?_⟩
  refine ⟨zsr rfl, ?_⟩
  refine ⟨zsr rfl, ?_⟩
  refine ⟨zsr rfl, ?_⟩
  refine ⟨zsr rfl, ?_⟩
  refine ⟨zsr rfl, ?_⟩
  refine ⟨zsr rfl, ?_⟩
  refine ⟨zsr rfl, ?_⟩
  refine ⟨zsr rfl, ?_⟩
  refine ⟨zsr rfl, ?_⟩
  refine ⟨zsq rfl (fun j hj => by rcases (show j = 0 ∨ j = 1 ∨ j = 2 ∨ j = 3 ∨ j = 4 ∨ j = 5 ∨ j = 6 ∨ j = 7 ∨ j = 8 ∨ j = 9 ∨ j = 10 ∨ j = 11 by omega) with rfl | rfl | rfl | rfl | rfl | rfl | rfl | rfl | rfl | rfl | rfl | rfl <;> rfl), ?_⟩
  refine ⟨zsr rfl, ?_⟩
  refine ⟨zsr rfl, ?_⟩
  refine ⟨zsr rfl, ?_⟩
  refine ⟨zsr rfl, ?_⟩
  refine ⟨zsr rfl, ?_⟩
  refine ⟨zsr rfl, ?_⟩
  refine ⟨zsr rfl, ?_⟩
  refine ⟨zsr rfl, ?_⟩
  refine ⟨zsr rfl, ?_⟩
  refine ⟨zsr rfl, ?_⟩
  refine ⟨zsr rfl, ?_⟩
  refine ⟨zsr rfl, ?_⟩
  refine ⟨zsr rfl, ?_⟩
  refine ⟨zsr rfl, ?_⟩
  refine ⟨zsr rfl, ?_⟩
  refine ⟨zsr rfl, ?_⟩
  refine ⟨zsr rfl, ?_⟩
  refine ⟨zsr rfl, ?_⟩
  refine ⟨zsr rfl, ?_⟩
  refine ⟨zsr rfl, ?_⟩
  refine ⟨zsr rfl, ?_⟩
  refine ⟨zsr rfl, ?_⟩
  refine ⟨zsr rfl, ?_⟩
  trivial
