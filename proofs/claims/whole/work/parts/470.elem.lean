/-! ===== element: what both sides answer ===== -/
def KE (g : Nat) (r k i : Int) : Prop := (g = 9 ∧ r = 0 ∧ k = 0 ∧ i = 4) ∨ g = 22
theorem Rel.ke {S S2 : Sg} (h : Rel S) (f : Fm KE S S2) : Rel S2 := by
  have eg : ∀ g : Nat, g ≠ 22 → g ≠ 9 → S2 g = S g := fun g a b => f.grp (fun r k i => by unfold KE; omega)
  have e1 := eg 1 (by decide) (by decide)
  have e0 := eg 0 (by decide) (by decide)
  have e5 := eg 5 (by decide) (by decide)
  have e6 := eg 6 (by decide) (by decide)
  have e7 := eg 7 (by decide) (by decide)
  refine ⟨h.1.fr ((h.1.1.toS e0 e1 (eg 13 (by decide) (by decide)) (eg 14 (by decide) (by decide))).to8 e5 e6 e7) (h.1.2.1.to (eg 20 (by decide) (by decide)) (eg 3 (by decide) (by decide))) (by rw [e0]; exact Int.le_refl _) (fun l _ _ => by rw [e1]) (f.mono (fun g r k i q => by unfold KE at q; unfold KA; omega)), ?_⟩
  exact h.2.fr (eg 2 (by decide) (by decide)) (eg 10 (by decide) (by decide)) (eg 11 (by decide) (by decide)) (fun k x y => f.row (fun i => by unfold KE; omega))
theorem Fm.ke {S : Sg} (v : Int) : Fm KE S (zu S 9 0 0 4 v) := fun g r k i q => by
  unfold zu
  rw [if_neg (by unfold KE at q; omega)]
theorem Fm.ke22 {S : Sg} (v : Int) : Fm KE S (zu S 22 0 0 0 v) := fun g r k i q => by
  unfold zu
  rw [if_neg (by unfold KE at q; omega)]
/-- 0: an element, 1: no such shelf, 2: no row, or no such place in it -/
def ek (S : Sg) (x y : Int) : Int := if 0 ≤ x ∧ x < 8 then (if S 2 x 0 0 = 3 ∧ 0 ≤ y ∧ y < S 2 x 0 5 then 0 else 2) else 1
theorem ek_to {S S2 : Sg} {x y : Int} (h : S2 2 = S 2) : ek S2 x y = ek S x y := by
  unfold ek
  rw [h]
theorem pe_M {S : Sg} (x y : Int) (h : Rel S) : ∃ (v : Int) (S2 : Sg), zf_M_element x y S = some (v, S2) ∧ Fm KE S S2 ∧ S2 9 0 0 4 = ek S x y ∧ S2 22 = S 22 ∧ (ek S x y = 0 → v = S 2 x 1 y) := by
  have g22 : ∀ (T : Sg) (v : Int), zu T 9 0 0 4 v 22 = T 22 := fun T v => by
    funext r k i
    unfold zu
    rw [if_neg (by omega)]
  have hu : ∀ (T : Sg) (v : Int), zu T 9 0 0 4 v 9 0 0 4 = v := fun T v => by
    unfold zu
    rw [if_pos ⟨rfl, rfl, rfl, rfl⟩]
  unfold zf_M_element
  rw [zlt_v, pf_M_isShelf, zbd_s]
  by_cases hd : 0 ≤ x ∧ x < 8
  · have q := h.2 x hd.1 hd.2
    unfold Rs1 at q
    have e91 : zu S 9 0 0 4 0 9 0 1 x = S 2 x 0 0 := by rw [nS (by omega), q.1]
    rw [if_pos hd, if_neg (by decide), zck_b hd, e91]
    by_cases h3 : S 2 x 0 0 = 3
    · obtain ⟨-, a2, -, a4, a5⟩ := q.2.2.1 h3
      have e93 : zu S 9 0 0 4 0 9 0 3 x = S 2 x 0 5 := by rw [nS (by omega), a2]
      rw [if_pos h3, e93, zw_in (by omega) (by omega), pf_M_in, zbd_s]
      by_cases hy : 0 ≤ y ∧ y ≤ S 2 x 0 5 - 1
      · have ee : ek S x y = 0 := by
          unfold ek
          rw [if_pos hd, if_pos ⟨h3, hy.1, by omega⟩]
        rw [if_pos hy, if_neg (by decide), zck_b ⟨by omega, by omega⟩]
        exact ⟨_, _, rfl, Fm.ke 0, by rw [hu, ee], g22 S 0, fun _ => by rw [nS (by omega), a5 y hy.1 (by omega)]⟩
      · have ee : ek S x y = 2 := by
          unfold ek
          rw [if_pos hd, if_neg (by omega)]
        rw [if_neg hy, if_pos rfl]
        unfold zf_M_element_45
        rw [zlt_v]
        exact ⟨_, _, rfl, (Fm.ke 0).trans (Fm.ke 2), by rw [hu, ee], by rw [g22, g22], fun e => absurd (ee.symm.trans e) (by decide)⟩
    · have ee : ek S x y = 2 := by
        unfold ek
        rw [if_pos hd, if_neg (fun e => h3 e.1)]
      rw [if_neg h3]
      unfold zf_M_element_45
      rw [zlt_v]
      exact ⟨_, _, rfl, (Fm.ke 0).trans (Fm.ke 2), by rw [hu, ee], by rw [g22, g22], fun e => absurd (ee.symm.trans e) (by decide)⟩
  · have ee : ek S x y = 1 := by
      unfold ek
      rw [if_neg hd]
    rw [if_neg hd, if_pos rfl, zlt_v]
    exact ⟨_, _, rfl, (Fm.ke 0).trans (Fm.ke 1), by rw [hu, ee], by rw [g22, g22], fun e => absurd (ee.symm.trans e) (by decide)⟩
