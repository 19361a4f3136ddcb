/-! ===== record; an island becomes another ===== -/
/-- the records below a week are alike -/
def Rre (S : Sg) (r w : Int) : Prop := ∀ j q, 0 ≤ j → j < S 0 r 0 0 → 0 ≤ q → q < 5 → S 8 w q j = S 3 0 1 (5 * j + q)
theorem pc_record {S : Sg} (x w : Int) (hR : Ria S 0 0) (hE : Rre S 0 0) : Pc T0 S (zf_O_record x w) (zf_M_record x w) := by
  have hw := hR.week
  have eS := eSn S 0
  by_cases hx : 0 ≤ x ∧ x ≤ 400
  · by_cases hq : 0 ≤ w ∧ w < 5
    · by_cases hy : x < S 0 0 0 0
      · refine Pc.same hR (a := S 3 0 1 (5 * x + w)) ?_ ?_
        · unfold zf_O_record
          rw [pf_O_isWeek, zbd_s, if_pos hx, if_neg (by decide), if_neg (by omega), if_pos hq.2, if_neg (by omega), if_pos (by omega), zw_in (x := 5 * x) (by omega) (by omega), zw_in (x := 5 * x + w) (by omega) (by omega), zck_b (by omega)]
        · unfold zf_M_record
          rw [zlt_v, pf_M_in, zbd_s, if_pos hx, if_neg (by decide), pf_M_in, zbd_s, if_pos (show 0 ≤ w ∧ w ≤ 4 by omega), if_neg (by decide), eS, hw.1, if_pos hy, zck_b (by omega), zck_b (by omega), nS (by omega), hE x w hx.1 hy hq.1 hq.2]
      · refine Pc.same hR (a := -3) ?_ ?_
        · unfold zf_O_record
          rw [pf_O_isWeek, zbd_s, if_pos hx, if_neg (by decide), if_neg (by omega), if_pos hq.2, if_pos (by omega)]
        · unfold zf_M_record
          rw [zlt_v, pf_M_in, zbd_s, if_pos hx, if_neg (by decide), pf_M_in, zbd_s, if_pos (show 0 ≤ w ∧ w ≤ 4 by omega), if_neg (by decide), eS, hw.1, if_neg hy]
    · refine Pc.same hR (a := -1) ?_ ?_
      · unfold zf_O_record
        rw [pf_O_isWeek, zbd_s, if_pos hx, if_neg (by decide)]
        by_cases z : w < 0
        · rw [if_pos z]
        · rw [if_neg z, if_neg (by omega)]
      · unfold zf_M_record
        rw [zlt_v, pf_M_in, zbd_s, if_pos hx, if_neg (by decide), pf_M_in, zbd_s, if_neg (show ¬ (0 ≤ w ∧ w ≤ 4) by omega), if_pos rfl]
  · refine Pc.same hR (a := -1) ?_ ?_
    · unfold zf_O_record
      rw [pf_O_isWeek, zbd_s, if_neg hx, if_pos rfl]
    · unfold zf_M_record
      rw [zlt_v, pf_M_in, zbd_s, if_neg hx, if_pos rfl]
theorem bk_P {S : Sg} {a b : Int} (h : a ≠ b) : ∃ S2, zf_P_become a b S = some (0, S2) ∧ (∀ (g : Nat) (r k : Int), ¬ (g = 0 ∧ r = a ∧ 6 ≤ k ∧ k ≤ 15) → S2 g r k = S g r k) ∧ S2 0 a 6 0 = S 0 b 6 0 ∧ (∀ k i, 7 ≤ k → k ≤ 15 → 0 ≤ i → i < 40 → S2 0 a k i = S 0 b k i) := by
  refine ⟨_, rfl, ?_, ?_, ?_⟩
  · intro g r k hh
    simp (discharger := omega) only [zu_ne, zcp_nr]
  · simp [zcp, zu]
  · intro k i h1 h2 h3 h4
    have hk : k = 7 ∨ k = 8 ∨ k = 9 ∨ k = 10 ∨ k = 11 ∨ k = 12 ∨ k = 13 ∨ k = 14 ∨ k = 15 := by omega
    rcases hk with e | e | e | e | e | e | e | e | e <;> subst e <;> simp [zcp, zu, h3, h4]
theorem bk_L {S : Sg} {a b : Int} (h : a ≠ b) : ∃ S2, zf_L_become a b S = some (0, S2) ∧ (∀ (g : Nat) (r k : Int), ¬ (g = 0 ∧ r = a ∧ 16 ≤ k ∧ k ≤ 25) → S2 g r k = S g r k) ∧ S2 0 a 16 0 = S 0 b 16 0 ∧ (∀ k i, 17 ≤ k → k ≤ 25 → 0 ≤ i → i < 12 → S2 0 a k i = S 0 b k i) := by
  refine ⟨_, rfl, ?_, ?_, ?_⟩
  · intro g r k hh
    simp (discharger := omega) only [zu_ne, zcp_nr]
  · simp [zcp, zu]
  · intro k i h1 h2 h3 h4
    have hk : k = 17 ∨ k = 18 ∨ k = 19 ∨ k = 20 ∨ k = 21 ∨ k = 22 ∨ k = 23 ∨ k = 24 ∨ k = 25 := by omega
    rcases hk with e | e | e | e | e | e | e | e | e <;> subst e <;> simp [zcp, zu, h3, h4]
theorem bk_Q {S : Sg} {a b : Int} (h : a ≠ b) : ∃ S2, zf_Q_become a b S = some (0, S2) ∧ (∀ (g : Nat) (r k : Int), ¬ (g = 0 ∧ r = a ∧ 26 ≤ k ∧ k ≤ 30) → S2 g r k = S g r k) ∧ S2 0 a 26 0 = S 0 b 26 0 ∧ (∀ k i, 27 ≤ k → k ≤ 30 → 0 ≤ i → i < 8 → S2 0 a k i = S 0 b k i) := by
  refine ⟨_, rfl, ?_, ?_, ?_⟩
  · intro g r k hh
    simp (discharger := omega) only [zu_ne, zcp_nr]
  · simp [zcp, zu]
  · intro k i h1 h2 h3 h4
    have hk : k = 27 ∨ k = 28 ∨ k = 29 ∨ k = 30 := by omega
    rcases hk with e | e | e | e <;> subst e <;> simp [zcp, zu, h3, h4]
theorem bk_T {S : Sg} {a b : Int} (h : a ≠ b) : ∃ S2, zf_T_become a b S = some (0, S2) ∧ (∀ (g : Nat) (r k : Int), ¬ (g = 0 ∧ r = a ∧ 31 ≤ k ∧ k ≤ 36) → S2 g r k = S g r k) ∧ S2 0 a 31 3 = S 0 b 31 3 ∧ (∀ k i, 32 ≤ k → k ≤ 34 → 0 ≤ i → i < 4 → S2 0 a k i = S 0 b k i) ∧ (∀ k i, 35 ≤ k → k ≤ 36 → 0 ≤ i → i < 30 → S2 0 a k i = S 0 b k i) := by
  refine ⟨_, rfl, ?_, ?_, ?_, ?_⟩
  · intro g r k hh
    simp (discharger := omega) only [zu_ne, zcp_nr]
  · simp [zcp, zu]
  · intro k i h1 h2 h3 h4
    have hk : k = 32 ∨ k = 33 ∨ k = 34 := by omega
    rcases hk with e | e | e <;> subst e <;> simp [zcp, zu, h3, h4]
  · intro k i h1 h2 h3 h4
    have hk : k = 35 ∨ k = 36 := by omega
    rcases hk with e | e <;> subst e <;> simp [zcp, zu, h3, h4]
theorem bk_Y {S : Sg} {a b k : Int} (h : a ≠ b) (hs : 0 ≤ S 13 b k 1 ∧ S 13 b k 1 ≤ 120) : ∃ S2, zf_Y_become a k b k S = some (0, S2) ∧ (∀ (g : Nat) (r q : Int), ¬ ((g = 13 ∨ g = 14) ∧ r = a ∧ q = k) → S2 g r q = S g r q) ∧ S2 13 a k 0 = S 13 b k 0 ∧ S2 13 a k 1 = S 13 b k 1 ∧ (∀ i, 0 ≤ i → i < S 13 b k 1 → S2 14 a k i = S 14 b k i) := by
  have hm : max 0 (min 120 (S 13 b k 1)) = S 13 b k 1 := by omega
  unfold zf_Y_become zf_Y_take
  rw [zlt_v, zlt_v, hm, zu_at, zck_b (by simp; omega), zlt_v, zbd_s]
  refine ⟨_, rfl, ?_, ?_, ?_, ?_⟩
  · intro g r q hh
    simp (discharger := omega) only [zu_ne, zcp_nr]
  · simp [zcp, zu]
  · simp [zcp, zu]
  · intro i h3 h4
    simp [zcp, zu, h3, h4]
