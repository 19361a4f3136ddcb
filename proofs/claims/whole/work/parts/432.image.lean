/-! ===== image, restore, count ===== -/
theorem tw_image2 {S T : Sg} (h : R2 S T) : ∃ (a : Int) (S2 T2 : Sg), zf_O_image S = some (a, S2) ∧ zf_M_image T = some (a, T2) ∧ R2 S2 T2 := by
  have hT := h.th 0
  unfold zf_O_image zf_M_image
  rw [zlt_v]
  generalize zu T 9 0 0 4 0 = U at hT
  have hw0 := hT.1.mc.2.2.2.2.2.2.1
  have hwU := hT.1.mc.1
  obtain ⟨A, B, a1, a2, a3, a4, a5, a6, a7, a8, a9⟩ := tw_become (a := 1) (aw := 2) hT.1 (by decide) (by decide)
  rw [a1, zbd_s, a2, zbd_s, zlt_v, zlt_v]
  have eA : ∀ (g : Nat) (r k : Int), ¬ (g = 3 ∧ r = 0 ∧ k = 0) → zu A 3 0 0 3 1 g r k = A g r k := fun g r k q => zu_ne q
  have eB : ∀ (g : Nat) (r k : Int), ¬ (g = 9 ∧ r = 0 ∧ k = 0) → zu B 9 0 0 3 1 g r k = B g r k := fun g r k q => zu_ne q
  have e1 : zu A 3 0 0 3 1 0 0 0 0 = S 0 0 0 0 := by rw [eA 0 0 0 (by omega), a4 0 0 0 (by omega)]
  have e2 : zu B 9 0 0 3 1 5 0 0 0 = S 0 0 0 0 := by rw [eB 5 0 0 (by omega), a5 5 0 0 (by omega), hwU]
  have e3 : zu A 3 0 0 3 1 3 0 0 3 = 1 := zu_at _ _ _ _ _ _
  have e4 : zu B 9 0 0 3 1 9 0 0 3 = 1 := zu_at _ _ _ _ _ _
  refine ⟨S 0 0 0 0, zu A 3 0 0 3 1, zu B 9 0 0 3 1, by rw [e1], by rw [e2], ?_⟩
  generalize zu A 3 0 0 3 1 = A2 at eA e1 e3 ⊢
  generalize zu B 9 0 0 3 1 = B2 at eB e2 e4 ⊢
  have e31 : A2 3 0 1 = S 3 0 1 := by rw [eA 3 0 1 (by omega), a4 3 0 1 (by omega)]
  have e01 : A2 0 1 0 0 = S 0 0 0 0 := by rw [eA 0 1 0 (by omega), a6]
  refine ⟨?_, ?_, ?_, ?_⟩
  · refine hT.1.row ?_ ?_ ?_ ?_ ?_ ?_ ?_
    · intro k; rw [eA 0 0 k (by omega), a4 0 0 k (by omega)]
    · intro l _ _; rw [eA 1 l 0 (by omega), a4 1 l 0 (by omega)]
    · intro k; rw [eA 13 0 k (by omega), a4 13 0 k (by omega)]
    · intro k; rw [eA 14 0 k (by omega), a4 14 0 k (by omega)]
    · intro k j _ _; rw [eB 5 0 k (by omega), a5 5 0 k (by omega)]
    · funext k; rw [eB 6 0 k (by omega), a5 6 0 k (by omega)]
    · funext k; rw [eB 7 0 k (by omega), a5 7 0 k (by omega)]
  · refine hT.2.1.to2 ?_ ?_ ?_
    · funext r k; rw [eA 20 r k (by omega), a4 20 r k (by omega)]
    · rw [eA 3 0 12 (by omega), a4 3 0 12 (by omega)]
    · rw [eA 3 0 10 (by omega), a4 3 0 10 (by omega)]
  · intro j q c d e f
    rw [e1] at d
    rw [eB 8 0 q (by omega), a5 8 0 q (by omega), e31]
    exact hT.2.2.1 j q c d e f
  · refine ⟨by rw [e3, e4], Or.inr ⟨e3, ?_, ?_, ?_, ?_⟩⟩
    · refine a3.row ?_ ?_ ?_ ?_ ?_ ?_ ?_
      · intro k; rw [eA 0 1 k (by omega)]
      · intro l _ _; rw [eA 1 l 0 (by omega)]
      · intro k; rw [eA 13 1 k (by omega)]
      · intro k; rw [eA 14 1 k (by omega)]
      · intro k j _ _; rw [eB 5 2 k (by omega)]
      · funext k; rw [eB 6 2 k (by omega)]
      · funext k; rw [eB 7 2 k (by omega)]
    · intro j q c d e f
      rw [e01] at d
      rw [eB 8 2 q (by omega), a9 q j e f c (by omega), e31]
      exact hT.2.2.1 j q c d e f
    · rw [eA 0 1 16 (by omega), a8, eA 0 0 16 (by omega), a4 0 0 16 (by omega)]
      exact Int.le_refl _
    · rw [e01, e1]
      exact Int.le_refl _
theorem tw_restore2 {S T : Sg} (h : R2 S T) : ∃ (a : Int) (S2 T2 : Sg), zf_O_restore S = some (a, S2) ∧ zf_M_restore T = some (a, T2) ∧ R2 S2 T2 := by
  have hT := h.th 0
  unfold zf_O_restore zf_M_restore
  rw [zlt_v]
  generalize zu T 9 0 0 4 0 = U at hT
  have h9 := hT.2.2.2.1
  rcases hT.2.2.2.2 with q | ⟨q, i1, i2, i3, i4⟩
  · rw [if_pos q, if_pos (by rw [h9, q])]
    exact ⟨-3, S, U, rfl, rfl, hT⟩
  · rw [if_neg (by rw [q]; decide), if_neg (by rw [h9, q]; decide)]
    have hw0 := i1.mc.2.2.2.2.2.2.1
    obtain ⟨A, B, a1, a2, a3, a4, a5, a6, a7, a8, a9⟩ := tw_become (a := 0) (aw := 0) i1 (by decide) (by decide)
    rw [a1, zbd_s, a2, zbd_s, a3.mc.1]
    refine ⟨_, A, B, rfl, rfl, ?_, ?_, ?_, ?_⟩
    · exact a3
    · exact hT.2.1.to (by funext r k; exact a4 20 r k (by omega)) (by funext r k; exact a4 3 r k (by omega))
    · intro j y c d e f
      rw [a6] at d
      rw [a9 y j e f c (by omega), a4 3 0 1 (by omega)]
      exact i2 j y c d e f
    · refine ⟨by rw [a5 9 0 0 (by omega), a4 3 0 0 (by omega)]; exact h9, Or.inr ⟨by rw [a4 3 0 0 (by omega)]; exact q, ?_, ?_, ?_, ?_⟩⟩
      · refine i1.row ?_ ?_ ?_ ?_ ?_ ?_ ?_
        · intro k; rw [a4 0 1 k (by omega)]
        · intro l _ _; rw [a4 1 l 0 (by omega)]
        · intro k; rw [a4 13 1 k (by omega)]
        · intro k; rw [a4 14 1 k (by omega)]
        · intro k j _ _; rw [a5 5 2 k (by omega)]
        · funext k; rw [a5 6 2 k (by omega)]
        · funext k; rw [a5 7 2 k (by omega)]
      · intro j y c d e f
        rw [a4 0 1 0 (by omega)] at d
        rw [a5 8 2 y (by omega), a4 3 0 1 (by omega)]
        exact i2 j y c d e f
      · rw [a4 0 1 16 (by omega), a8]
        exact Int.le_refl _
      · rw [a4 0 1 0 (by omega), a6]
        exact Int.le_refl _
/-- what asking changes -/
def SC (g : Nat) (r k i : Int) : Prop := (g = 3 ∧ r = 0 ∧ 7 ≤ k ∧ k ≤ 20) ∨ g = 20 ∨ g = 4
def SM (g : Nat) (r k i : Int) : Prop := (g = 5 ∧ r = 0 ∧ (35 ≤ k ∧ k ≤ 40 ∨ k = 0 ∧ 47 ≤ i)) ∨ (g = 21 ∧ r = 0) ∨ (g = 9 ∧ r = 0 ∧ k = 0 ∧ i = 4)
theorem R2.scr {S T S2 T2 : Sg} (h : R2 S T) (a : Fm SC S S2) (b : Fm SM T T2) (hc : Rcr S2) : R2 S2 T2 := by
  obtain ⟨h1, h2, h3, h4⟩ := h
  have e31 : S2 3 0 1 = S 3 0 1 := a.row (fun i => by unfold SC; omega)
  refine ⟨?_, hc, ?_, ?_⟩
  · exact h1.row (fun k => a.row (fun i => by unfold SC; omega)) (fun l _ _ => a.row (fun i => by unfold SC; omega)) (fun k => a.row (fun i => by unfold SC; omega)) (fun k => a.row (fun i => by unfold SC; omega)) (fun k j c d => b 5 0 k j (by unfold SM; omega)) (by funext k; exact b.row (fun i => by unfold SM; omega)) (by funext k; exact b.row (fun i => by unfold SM; omega))
  · intro j q c d e f
    rw [a 0 0 0 0 (by unfold SC; omega)] at d
    rw [b 8 0 q j (by unfold SM; omega), e31]
    exact h3 j q c d e f
  · exact h4.keep (by rw [a 0 0 16 0 (by unfold SC; omega)]; exact Int.le_refl _) (by rw [a 0 0 0 0 (by unfold SC; omega)]; exact Int.le_refl _) (a 3 0 0 3 (by unfold SC; omega)) (b 9 0 0 3 (by unfold SM; omega)) (fun k => a.row (fun i => by unfold SC; omega)) (fun l _ _ => a.row (fun i => by unfold SC; omega)) (fun k => a.row (fun i => by unfold SC; omega)) (fun k => a.row (fun i => by unfold SC; omega)) (fun k => b.row (fun i => by unfold SM; omega)) (by funext k; exact b.row (fun i => by unfold SM; omega)) (by funext k; exact b.row (fun i => by unfold SM; omega)) (by funext k; exact b.row (fun i => by unfold SM; omega)) (fun j _ _ q _ _ => by rw [e31])
theorem JF.sc {S S2 : Sg} (h : JF S S2) : Fm SC S S2 := fun g r k i q => by rw [h g r k (fun e => q (by unfold SC; omega))]
theorem WF.sm {T T2 : Sg} (h : WF 0 T T2) : Fm SM T T2 := fun g r k i q => h g r k i (fun e => q (by unfold SM; omega))
theorem m_cnt {S T : Sg} (h : Rw S T 0 0) : ∀ (c n : Nat) (i x : Int), 0 ≤ i → i + c = S 0 0 6 0 → c < n → (0 ≤ x ∧ x ≤ 5 * i) → zf_M_count_191 n x i T = some (x + sF (nds S 0) i c, T)
  | 0, n + 1, i, x, hi, hc, _, hx => by
    have hn := h.1.2.2.1.1
    rw [zf_M_count_191, if_pos (by omega)]
    show _ = some (x + 0, T)
    rw [Int.add_zero]
  | c + 1, n + 1, i, x, hi, hc, hn, hx => by
    have hn1 := h.1.2.2.1.1
    have hn40 := h.1.2.2.1.2.1
    have hd := nds_in S 0 i
    rw [zf_M_count_191, if_neg (by omega), e_needM h (EF.refl 0 T) (by omega), zbd_s, zlt_v, zlt_v, zw_in (x := x + nds S 0 i) (by omega) (by omega), zw_in (x := i + 1) (by omega) (by omega), m_cnt h c n (i + 1) (x + nds S 0 i) (by omega) (by omega) (by omega) (by omega)]
    show _ = some (x + (nds S 0 i + sF (nds S 0) (i + 1) c), T)
    rw [Int.add_assoc]
theorem tw_count2 {S T : Sg} (x : Int) (h : R2 S T) : ∃ (a : Int) (S2 T2 : Sg), zf_O_count x S = some (a, S2) ∧ zf_M_count x T = some (a, T2) ∧ R2 S2 T2 := by
  have hT := h.th 0
  unfold zf_O_count zf_M_count
  rw [zlt_v]
  generalize zu T 9 0 0 4 0 = U at hT
  have hR := hT.1
  have hp := hR.1.2.2.1
  have := hp.1
  have hn := hp.2.1
  have eI : ∀ t, zf_W_inState 0 t U = some (sF (inC S 0 t) 0 (S 0 0 6 0).toNat, U) := fun t => by rw [pf_W_inState (by omega), in_like2 hp]
  obtain ⟨d1, d2, d3, d4, d5, d6, d7, d8, d9, d10⟩ := hR.mc
  have done : ∀ a : Int, ∃ (a' : Int) (S2 T2 : Sg), some (a, S) = some (a', S2) ∧ some (a, U) = some (a', T2) ∧ R2 S2 T2 := fun a => ⟨a, S, U, rfl, rfl, hT⟩
  by_cases e0 : x = 0
  · rw [if_pos e0, if_pos e0, hp.1]; exact done _
  rw [if_neg e0, if_neg e0]
  by_cases e1 : x = 1
  · rw [if_pos e1, if_pos e1, pf_P_in hn, zbd_s, eI, zbd_s]; exact done _
  rw [if_neg e1, if_neg e1]
  by_cases e2 : x = 2
  · rw [if_pos e2, if_pos e2, pf_P_in hn, zbd_s, eI, zbd_s]; exact done _
  rw [if_neg e2, if_neg e2]
  by_cases e3 : x = 3
  · rw [if_pos e3, if_pos e3, pf_P_in hn, zbd_s, eI, zbd_s]; exact done _
  rw [if_neg e3, if_neg e3]
  by_cases e4 : x = 4
  · rw [if_pos e4, if_pos e4, hR.2.1.1]; exact done _
  rw [if_neg e4, if_neg e4]
  by_cases e5 : x = 5
  · rw [if_pos e5, if_pos e5, hR.1.2.2.2.1.1]; exact done _
  rw [if_neg e5, if_neg e5]
  by_cases e6 : x = 6
  · rw [if_pos e6, if_pos e6, hR.1.2.2.2.2.1.2.1]; exact done _
  rw [if_neg e6, if_neg e6]
  by_cases e7 : x = 7
  · rw [if_pos e7, if_pos e7, d1]; exact done _
  rw [if_neg e7, if_neg e7]
  by_cases e8 : x = 8
  · rw [if_pos e8, if_pos e8, d2]; exact done _
  rw [if_neg e8, if_neg e8]
  by_cases e9 : x = 9
  · rw [if_pos e9, if_pos e9, d3]; exact done _
  rw [if_neg e9, if_neg e9]
  by_cases e10 : x = 10
  · rw [if_pos e10, if_pos e10, d4]; exact done _
  rw [if_neg e10, if_neg e10]
  by_cases e11 : x = 11
  · rw [if_pos e11, if_pos e11, d5]; exact done _
  rw [if_neg e11, if_neg e11]
  by_cases e12 : x = 12
  · rw [if_pos e12, if_pos e12]
    obtain ⟨v, S2, T2, k1, k2, k3, k4, k5⟩ := pf_voters hR
    rw [k1, zbd_s, k2, zbd_s]
    exact ⟨v, S2, T2, rfl, rfl, hT.scr k4.sc k5.sm (k4.ag.rcr (r := 0) hT.2.1)⟩
  rw [if_neg e12, if_neg e12]
  by_cases e13 : x = 13
  · rw [if_pos e13, if_pos e13]
    have c1 := c_needs hR (S 0 0 6 0).toNat 4096 0 0 (by decide) (by omega) (by omega) (by omega)
    have c1' : zf_P_needOfAll 0 (S 0 0 0 0) S = some (0 + sF (nds S 0) 0 (S 0 0 6 0).toNat, S) := c1
    rw [c1', zbd_s, m_cnt hR (S 0 0 6 0).toNat 4096 0 0 (by decide) (by omega) (by omega) (by omega)]
    exact done _
  rw [if_neg e13, if_neg e13]
  by_cases e14 : x = 14
  · rw [if_pos e14, if_pos e14, d6]
    unfold pv
    by_cases q : 0 ≤ S 0 0 0 6
    · rw [if_pos q, if_neg (by omega)]; exact done _
    · rw [if_neg q, if_pos (by omega)]; exact done _
  rw [if_neg e14, if_neg e14]
  exact done _
