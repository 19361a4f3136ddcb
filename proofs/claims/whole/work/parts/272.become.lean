/-! ===== an island becomes another, whole ===== -/
def Bk (S S2 : Sg) (a b : Int) : Prop :=
  (∀ i, 0 ≤ i → i ≤ 6 → S2 0 a 0 i = S 0 b 0 i) ∧ (∀ i, 0 ≤ i → i < 4 → S2 0 a 1 i = S 0 b 1 i) ∧ (∀ k i, 2 ≤ k → k ≤ 5 → 0 ≤ i → i < 12 → S2 0 a k i = S 0 b k i) ∧
  S2 0 a 6 0 = S 0 b 6 0 ∧ (∀ k i, 7 ≤ k → k ≤ 15 → 0 ≤ i → i < 40 → S2 0 a k i = S 0 b k i) ∧
  S2 0 a 16 0 = S 0 b 16 0 ∧ (∀ k i, 17 ≤ k → k ≤ 25 → 0 ≤ i → i < 12 → S2 0 a k i = S 0 b k i) ∧
  S2 0 a 26 0 = S 0 b 26 0 ∧ (∀ k i, 27 ≤ k → k ≤ 30 → 0 ≤ i → i < 8 → S2 0 a k i = S 0 b k i) ∧
  S2 0 a 31 3 = S 0 b 31 3 ∧ (∀ k i, 32 ≤ k → k ≤ 34 → 0 ≤ i → i < 4 → S2 0 a k i = S 0 b k i) ∧ (∀ k i, 35 ≤ k → k ≤ 36 → 0 ≤ i → i < 30 → S2 0 a k i = S 0 b k i) ∧
  (∀ k, 0 ≤ k → k < 2 → S2 13 a k 0 = S 13 b k 0 ∧ S2 13 a k 1 = S 13 b k 1 ∧ ∀ i, 0 ≤ i → i < S 13 b k 1 → S2 14 a k i = S 14 b k i)
theorem bk_I {S : Sg} {a b : Int} (h : a ≠ b) (hs : ∀ k, 0 ≤ k → k < 2 → 0 ≤ S 13 b k 1 ∧ S 13 b k 1 ≤ 120) : ∃ S2, zf_I_become a b S = some (0, S2) ∧ (∀ (g : Nat) (r k : Int), ¬ (r = a ∧ ((g = 0 ∧ 0 ≤ k ∧ k ≤ 36) ∨ ((g = 13 ∨ g = 14) ∧ 0 ≤ k ∧ k < 2))) → S2 g r k = S g r k) ∧ Bk S S2 a b := by
  have hb : ¬ b = a := fun q => h q.symm
  unfold zf_I_become
  simp only [zlt_v]
  generalize hU : zcp (zcp (zcp (zcp (zcp (zu (zu (zu (zu (zu (zu (zu S 0 a 0 0 (S 0 b 0 0)) 0 a 0 1 (zu S 0 a 0 0 (S 0 b 0 0) 0 b 0 1)) 0 a 0 2 _) 0 a 0 3 _) 0 a 0 4 _) 0 a 0 5 _) 0 a 0 6 _) 0 b 1 0 0 a 1 0 4) 0 b 2 0 0 a 2 0 12) 0 b 3 0 0 a 3 0 12) 0 b 4 0 0 a 4 0 12) 0 b 5 0 0 a 5 0 12 = U
  have fU : ∀ (g : Nat) (r k : Int), ¬ (g = 0 ∧ r = a ∧ 0 ≤ k ∧ k ≤ 5) → U g r k = S g r k := by
    intro g r k hh
    rw [← hU]
    simp (discharger := omega) only [zu_ne, zcp_nr]
  have vU0 : ∀ i, 0 ≤ i → i ≤ 6 → U 0 a 0 i = S 0 b 0 i := by
    intro i h1 h2
    have hi : i = 0 ∨ i = 1 ∨ i = 2 ∨ i = 3 ∨ i = 4 ∨ i = 5 ∨ i = 6 := by omega
    rw [← hU]
    rcases hi with e | e | e | e | e | e | e <;> subst e <;> simp [zcp, zu, hb]
  have vU1 : ∀ i, 0 ≤ i → i < 4 → U 0 a 1 i = S 0 b 1 i := by
    intro i h1 h2
    rw [← hU]
    simp [zcp, zu, h1, h2]
  have vU2 : ∀ k i, 2 ≤ k → k ≤ 5 → 0 ≤ i → i < 12 → U 0 a k i = S 0 b k i := by
    intro k i h1 h2 h3 h4
    have hk : k = 2 ∨ k = 3 ∨ k = 4 ∨ k = 5 := by omega
    rw [← hU]
    rcases hk with e | e | e | e <;> subst e <;> simp [zcp, zu, h3, h4]
  clear hU
  obtain ⟨P, p1, p2, p3, p4⟩ := bk_P (S := U) h
  rw [p1, zbd_s]
  obtain ⟨L, l1, l2, l3, l4⟩ := bk_L (S := P) h
  rw [l1, zbd_s]
  obtain ⟨Q, q1, q2, q3, q4⟩ := bk_Q (S := L) h
  rw [q1, zbd_s]
  obtain ⟨T, t1, t2, t3, t4, t5⟩ := bk_T (S := Q) h
  rw [t1, zbd_s]
  have fT : ∀ (g : Nat) (r k : Int), ¬ (g = 0 ∧ r = a ∧ 0 ≤ k ∧ k ≤ 36) → T g r k = S g r k := fun g r k hh => by
    rw [t2 g r k (by omega), q2 g r k (by omega), l2 g r k (by omega), p2 g r k (by omega), fU g r k (by omega)]
  obtain ⟨Y, y1, y2, y3, y4, y5⟩ := bk_Y (S := T) (k := 0) h (by rw [fT 13 b 0 (by omega)]; exact hs 0 (by decide) (by decide))
  rw [y1, zbd_s]
  obtain ⟨Z, z1, z2, z3, z4, z5⟩ := bk_Y (S := Y) (k := 1) h (by rw [y2 13 b 1 (by omega), fT 13 b 1 (by omega)]; exact hs 1 (by decide) (by decide))
  rw [z1, zbd_s]
  have g0 : ∀ k, Z 0 a k = T 0 a k := fun k => by rw [z2 0 a k (by omega), y2 0 a k (by omega)]
  have gb : ∀ k, S 0 b k = S 0 b k := fun _ => rfl
  refine ⟨Z, rfl, ?_, ?_, ?_, ?_, ?_, ?_, ?_, ?_, ?_, ?_, ?_, ?_, ?_, ?_⟩
  · intro g r k hh
    rw [z2 g r k (by omega), y2 g r k (by omega), fT g r k (by omega)]
  · intro i h1 h2
    rw [g0, t2 0 a 0 (by omega), q2 0 a 0 (by omega), l2 0 a 0 (by omega), p2 0 a 0 (by omega), vU0 i h1 h2]
  · intro i h1 h2
    rw [g0, t2 0 a 1 (by omega), q2 0 a 1 (by omega), l2 0 a 1 (by omega), p2 0 a 1 (by omega), vU1 i h1 h2]
  · intro k i h1 h2 h3 h4
    rw [g0, t2 0 a k (by omega), q2 0 a k (by omega), l2 0 a k (by omega), p2 0 a k (by omega), vU2 k i h1 h2 h3 h4]
  · rw [g0, t2 0 a 6 (by omega), q2 0 a 6 (by omega), l2 0 a 6 (by omega), p3, fU 0 b 6 (by omega)]
  · intro k i h1 h2 h3 h4
    rw [g0, t2 0 a k (by omega), q2 0 a k (by omega), l2 0 a k (by omega), p4 k i h1 h2 h3 h4, fU 0 b k (by omega)]
  · rw [g0, t2 0 a 16 (by omega), q2 0 a 16 (by omega), l3, p2 0 b 16 (by omega), fU 0 b 16 (by omega)]
  · intro k i h1 h2 h3 h4
    rw [g0, t2 0 a k (by omega), q2 0 a k (by omega), l4 k i h1 h2 h3 h4, p2 0 b k (by omega), fU 0 b k (by omega)]
  · rw [g0, t2 0 a 26 (by omega), q3, l2 0 b 26 (by omega), p2 0 b 26 (by omega), fU 0 b 26 (by omega)]
  · intro k i h1 h2 h3 h4
    rw [g0, t2 0 a k (by omega), q4 k i h1 h2 h3 h4, l2 0 b k (by omega), p2 0 b k (by omega), fU 0 b k (by omega)]
  · rw [g0, t3, q2 0 b 31 (by omega), l2 0 b 31 (by omega), p2 0 b 31 (by omega), fU 0 b 31 (by omega)]
  · intro k i h1 h2 h3 h4
    rw [g0, t4 k i h1 h2 h3 h4, q2 0 b k (by omega), l2 0 b k (by omega), p2 0 b k (by omega), fU 0 b k (by omega)]
  · intro k i h1 h2 h3 h4
    rw [g0, t5 k i h1 h2 h3 h4, q2 0 b k (by omega), l2 0 b k (by omega), p2 0 b k (by omega), fU 0 b k (by omega)]
  · intro k h1 h2
    have hk : k = 0 ∨ k = 1 := by omega
    rcases hk with e | e <;> subst e
    · refine ⟨by rw [z2 13 a 0 (by omega), y3, fT 13 b 0 (by omega)], by rw [z2 13 a 0 (by omega), y4, fT 13 b 0 (by omega)], fun i c1 c2 => ?_⟩
      rw [z2 14 a 0 (by omega), y5 i c1 (by rw [fT 13 b 0 (by omega)]; exact c2), fT 14 b 0 (by omega)]
    · refine ⟨by rw [z3, y2 13 b 1 (by omega), fT 13 b 1 (by omega)], by rw [z4, y2 13 b 1 (by omega), fT 13 b 1 (by omega)], fun i c1 c2 => ?_⟩
      rw [z5 i c1 (by rw [y2 13 b 1 (by omega), fT 13 b 1 (by omega)]; exact c2), y2 14 b 1 (by omega), fT 14 b 1 (by omega)]
