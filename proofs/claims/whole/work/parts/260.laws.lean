/-! ===== laws (but for what they say): class on S, reference on T ===== -/
def sbj (c : Int) : Int := if c = 118 then 0 else if c = 112 then 1 else if c = 101 then 2 else 3
def Rl1 (S T : Sg) (r w l : Int) : Prop :=
  T 5 w 15 l = S 0 r 18 l ∧ T 5 w 16 l = S 0 r 19 l ∧ T 5 w 17 l = S 0 r 20 l ∧ T 5 w 19 l = S 0 r 21 l ∧ T 5 w 20 l = pv (S 0 r 22 l) ∧ T 5 w 18 l = pv (S 0 r 23 l) ∧ T 5 w 14 l = S 0 r 24 l ∧ sbj (T 6 w l 0) = S 0 r 17 l ∧
  (1 ≤ S 0 r 18 l ∧ S 0 r 18 l ≤ 401) ∧ (0 ≤ S 0 r 19 l ∧ S 0 r 19 l ≤ S 0 r 20 l) ∧ (S 0 r 20 l ≤ 40) ∧ (0 ≤ S 0 r 21 l ∧ S 0 r 21 l ≤ 1) ∧ (-1 ≤ S 0 r 22 l ∧ S 0 r 22 l ≤ 401) ∧ (-1 ≤ S 0 r 23 l ∧ S 0 r 23 l < l) ∧ (0 ≤ S 0 r 24 l ∧ S 0 r 24 l ≤ 120) ∧ (0 ≤ S 0 r 17 l ∧ S 0 r 17 l ≤ 3) ∧
  (0 ≤ S 0 r 23 l → S 0 r 21 (S 0 r 23 l) = 1 → S 0 r 21 l = 1)
def Rla (S T : Sg) (r w : Int) : Prop := T 5 w 0 16 = S 0 r 16 0 ∧ (0 ≤ S 0 r 16 0 ∧ S 0 r 16 0 ≤ 12) ∧ ∀ l, 0 ≤ l → l < S 0 r 16 0 → Rl1 S T r w l
theorem Rla.to {S T S2 T2 : Sg} {r w : Int} (h : Rla S T r w) (h1 : ∀ k, 16 ≤ k → k ≤ 25 → S2 0 r k = S 0 r k) (h2 : ∀ k, 14 ≤ k → k ≤ 20 → T2 5 w k = T 5 w k) (h3 : T2 5 w 0 16 = T 5 w 0 16) (h4 : T2 6 = T 6) : Rla S2 T2 r w := by
  unfold Rla Rl1 at *
  rw [h1 16 (by omega) (by omega), h1 17 (by omega) (by omega), h1 18 (by omega) (by omega), h1 19 (by omega) (by omega), h1 20 (by omega) (by omega), h1 21 (by omega) (by omega), h1 22 (by omega) (by omega), h1 23 (by omega) (by omega), h1 24 (by omega) (by omega), h2 14 (by omega) (by omega), h2 15 (by omega) (by omega), h2 16 (by omega) (by omega), h2 17 (by omega) (by omega), h2 18 (by omega) (by omega), h2 19 (by omega) (by omega), h2 20 (by omega) (by omega), h3, h4]
  exact h
theorem pf_L_has (r x : Int) (S : Sg) : zf_L_has r x S = some (if 0 ≤ x ∧ x < S 0 r 16 0 then 1 else 0, S) := by
  unfold zf_L_has
  split
  · rw [if_neg (by omega)]
  · split
    · rw [if_neg (by omega)]
    · rw [if_pos (by omega)]
theorem pf_M_isLaw {S : Sg} (x : Int) (h : 0 ≤ S 5 0 0 16 ∧ S 5 0 0 16 ≤ 12) : zf_M_isLaw x S = some (if 0 ≤ x ∧ x < S 5 0 0 16 then 1 else 0, S) := by
  unfold zf_M_isLaw
  rw [pf_M_in, zbd_s, zw_in (by omega) (by omega), zck_b (b01 _)]
  congr 2
  split
  · rw [if_pos (by omega)]
  · rw [if_neg (by omega)]
theorem pf_W_subject {T : Sg} {w l : Int} (hl : 0 ≤ l ∧ l < 12) : zf_W_subject w l T = some (sbj (T 6 w l 0), T) := by
  unfold zf_W_subject sbj
  rw [zck_b hl, zlt_v]
  simp only [ite_some]
def hit (S : Sg) (r s wk l : Int) : Prop := S 0 r 17 l = s ∧ S 0 r 21 l = 0 ∧ S 0 r 18 l ≤ wk ∧ (S 0 r 22 l < 0 ∨ wk < S 0 r 22 l)
theorem force_C {S : Sg} {r s wk best l : Int} {n : Nat} (hn : S 0 r 16 0 ≤ 12) (hl : 0 ≤ l ∧ l < S 0 r 16 0) (hb : -1 ≤ best ∧ best < l) : (hit S r s wk l ∧ (best < 0 ∨ S 0 r 18 best ≤ S 0 r 18 l) → zf_L_inForce_5 r (n + 1) s wk best l S = zf_L_inForce_5 r n s wk l (l + 1) S) ∧ (¬ (hit S r s wk l ∧ (best < 0 ∨ S 0 r 18 best ≤ S 0 r 18 l)) → zf_L_inForce_5 r (n + 1) s wk best l S = zf_L_inForce_5 r n s wk best (l + 1) S) := by
  unfold hit
  rw [zf_L_inForce_5, if_neg (by omega), zck_b (by omega)]
  unfold zf_L_inForce_39 zf_L_inForce_40 zf_L_inForce_99 zf_L_inForce_102
  simp only [zlt_v, zck_b (show 0 ≤ l ∧ l < 12 by omega), zw_in (x := l + 1) (by omega) (by omega)]
  by_cases h0 : best < 0
  · simp only [if_pos h0]
    constructor
    · intro h
      repeat' split
      all_goals first | rfl | omega | exact absurd trivial (by assumption) | (simp only [true_or, false_or, or_false, or_true, true_and, and_true, not_false_eq_true] at h; omega)
    · intro h
      repeat' split
      all_goals first | rfl | omega | exact absurd trivial (by assumption) | (simp only [true_or, false_or, or_false, or_true, true_and, and_true, not_false_eq_true] at h; omega)
  · simp only [if_neg h0, zck_b (show 0 ≤ best ∧ best < 12 by omega)]
    constructor
    · intro h
      repeat' split
      all_goals first | rfl | omega | exact absurd trivial (by assumption) | (simp only [true_or, false_or, or_false, or_true, true_and, and_true, not_false_eq_true] at h; omega)
    · intro h
      repeat' split
      all_goals first | rfl | omega | exact absurd trivial (by assumption) | (simp only [true_or, false_or, or_false, or_true, true_and, and_true, not_false_eq_true] at h; omega)
theorem force_M {S T : Sg} {r w s wk best l : Int} {n : Nat} (hR : Rla S T r w) (hl : 0 ≤ l ∧ l < S 0 r 16 0) (hb : -1 ≤ best ∧ best < l) : (hit S r s wk l ∧ (best < 0 ∨ S 0 r 18 best ≤ S 0 r 18 l) → zf_W_force_6 w (n + 1) s wk (pv best) l T = zf_W_force_6 w n s wk l (l + 1) T) ∧ (¬ (hit S r s wk l ∧ (best < 0 ∨ S 0 r 18 best ≤ S 0 r 18 l)) → zf_W_force_6 w (n + 1) s wk (pv best) l T = zf_W_force_6 w n s wk (pv best) (l + 1) T) := by
  obtain ⟨hn, hn2, hR⟩ := hR
  have q := hR l hl.1 hl.2
  unfold Rl1 at q
  unfold hit
  have hp : (pv (S 0 r 22 l) = -2) = (S 0 r 22 l < 0) := by
    unfold pv; by_cases z : S 0 r 22 l < 0
    · rw [if_pos z]; simp [z]
    · rw [if_neg z]; simp [z]; omega
  have hp2 : ∀ z : ¬ S 0 r 22 l < 0, pv (S 0 r 22 l) = S 0 r 22 l := fun z => by unfold pv; rw [if_neg z]
  rw [zf_W_force_6, if_neg (by omega), pf_W_subject (by omega), zbd_s]
  unfold zf_W_force_73 zf_W_force_69 zf_W_force_74 zf_W_force_103 zf_W_force_106
  simp only [zlt_v, zck_b (show 0 ≤ l ∧ l < 12 by omega), zw_in (x := l + 1) (by omega) (by omega), q]
  have hrep : (if pv (S 0 r 22 l) = -2 then (1 : Int) else if pv (S 0 r 22 l) ≤ wk then 0 else 1) = if S 0 r 22 l < 0 then 1 else if S 0 r 22 l ≤ wk then 0 else 1 := by
    by_cases z : S 0 r 22 l < 0
    · rw [if_pos z, if_pos (by rw [hp]; exact z)]
    · rw [if_neg z, if_neg (by rw [hp]; exact z), hp2 z]
  by_cases h0 : best < 0
  · have e : pv best = -2 := by unfold pv; rw [if_pos h0]
    by_cases z : S 0 r 22 l < 0
    · simp only [e, hp, z, if_true]
      constructor
      · intro h
        repeat' split
        all_goals first | rfl | omega | exact absurd trivial (by assumption) | (simp only [true_or, false_or, or_false, or_true, true_and, and_true, not_false_eq_true] at h; omega)
      · intro h
        repeat' split
        all_goals first | rfl | omega | exact absurd trivial (by assumption) | (simp only [true_or, false_or, or_false, or_true, true_and, and_true, not_false_eq_true] at h; omega)
    · simp only [e, hp2 z, show ¬ S 0 r 22 l = -2 by omega, if_true, if_false]
      constructor
      · intro h
        repeat' split
        all_goals first | rfl | omega | exact absurd trivial (by assumption) | (simp only [true_or, false_or, or_false, or_true, true_and, and_true, not_false_eq_true] at h; omega)
      · intro h
        repeat' split
        all_goals first | rfl | omega | exact absurd trivial (by assumption) | (simp only [true_or, false_or, or_false, or_true, true_and, and_true, not_false_eq_true] at h; omega)
  · have e : pv best = best := by unfold pv; rw [if_neg h0]
    have qb := hR best (by omega) (by omega)
    unfold Rl1 at qb
    by_cases z : S 0 r 22 l < 0
    · simp only [e, hp, z, if_true, qb, zck_b (show 0 ≤ best ∧ best < 12 by omega), show ¬ best = -2 by omega, if_false]
      constructor
      · intro h
        repeat' split
        all_goals first | rfl | omega | exact absurd trivial (by assumption) | (simp only [true_or, false_or, or_false, or_true, true_and, and_true, not_false_eq_true] at h; omega)
      · intro h
        repeat' split
        all_goals first | rfl | omega | exact absurd trivial (by assumption) | (simp only [true_or, false_or, or_false, or_true, true_and, and_true, not_false_eq_true] at h; omega)
    · simp only [e, hp2 z, show ¬ S 0 r 22 l = -2 by omega, if_true, if_false, qb, zck_b (show 0 ≤ best ∧ best < 12 by omega), show ¬ best = -2 by omega]
      constructor
      · intro h
        repeat' split
        all_goals first | rfl | omega | exact absurd trivial (by assumption) | (simp only [true_or, false_or, or_false, or_true, true_and, and_true, not_false_eq_true] at h; omega)
      · intro h
        repeat' split
        all_goals first | rfl | omega | exact absurd trivial (by assumption) | (simp only [true_or, false_or, or_false, or_true, true_and, and_true, not_false_eq_true] at h; omega)
theorem pl_force {S T : Sg} {r w s wk : Int} (hR : Rla S T r w) : ∀ (c n n2 : Nat) (best l : Int), 0 ≤ l → l + c = S 0 r 16 0 → c < n → c < n2 → -1 ≤ best → best < l → ∃ v, zf_L_inForce_5 r n s wk best l S = some (v, S) ∧ zf_W_force_6 w n2 s wk (pv best) l T = some (pv v, T) ∧ -1 ≤ v ∧ v < S 0 r 16 0
  | 0, n + 1, n2 + 1, best, l, h0, hc, _, _, hb, hb2 => by
    rw [zf_L_inForce_5, if_pos (by omega), zf_W_force_6, if_pos (by rw [hR.1]; omega)]
    exact ⟨best, rfl, rfl, hb, by omega⟩
  | c + 1, n + 1, n2 + 1, best, l, h0, hc, h1, h2, hb, hb2 => by
    have e1 := force_C (s := s) (wk := wk) (n := n) hR.2.1.2 (l := l) ⟨h0, by omega⟩ ⟨hb, hb2⟩
    have e2 := force_M (s := s) (wk := wk) (n := n2) hR (l := l) ⟨h0, by omega⟩ ⟨hb, hb2⟩
    by_cases z : hit S r s wk l ∧ (best < 0 ∨ S 0 r 18 best ≤ S 0 r 18 l)
    · rw [e1.1 z, e2.1 z]
      have := pl_force (s := s) (wk := wk) hR c n n2 l (l + 1) (by omega) (by omega) (by omega) (by omega) (by omega) (by omega)
      rw [show pv l = l by unfold pv; rw [if_neg (by omega)]] at this
      exact this
    · rw [e1.2 z, e2.2 z]
      exact pl_force hR c n n2 best (l + 1) (by omega) (by omega) (by omega) (by omega) hb (by omega)
theorem pf_force {S T : Sg} {r w : Int} (hR : Rla S T r w) (s wk : Int) : ∃ v, zf_L_inForce r s wk S = some (v, S) ∧ zf_W_force w s wk T = some (pv v, T) ∧ -1 ≤ v ∧ v < S 0 r 16 0 := by
  have hq := hR.2.1
  by_cases h0 : S 0 r 16 0 = 0
  · refine ⟨-1, ?_, ?_, by decide, by omega⟩
    · unfold zf_L_inForce; rw [zf_L_inForce_5, if_pos (by omega)]
    · unfold zf_W_force; rw [zf_W_force_6, if_pos (by rw [hR.1]; omega)]; rfl
  · exact pl_force (s := s) (wk := wk) hR (S 0 r 16 0).toNat 4096 4096 (-1) 0 (by decide) (by omega) (by omega) (by omega) (by decide) (by decide)
theorem Rla.none {S S2 : Sg} (h : Rla S S 0 0) (hf : Fr T0 S S2) : Rla S2 S2 0 0 := h.to (fun k _ _ => hf _ _ _ (by unfold T0; omega)) (fun k _ _ => hf _ _ _ (by unfold T0; omega)) (by rw [hf 5 0 0 (by unfold T0; omega)]) (by funext r k; exact hf _ _ _ (by unfold T0; omega))
theorem Rla.half {S : Sg} (h : Rla S S 0 0) : Rla S (zu S 9 0 0 4 0) 0 0 := h.to (fun k _ _ => rfl) (fun k _ _ => zu_ne (by omega)) (by rw [nS (by omega)]) (by funext r k; exact zu_ne (by omega))
theorem pf_O_isSubject (x : Int) (S : Sg) : zf_O_isSubject x S = some (if 0 ≤ x ∧ x < 4 then 1 else 0, S) := by
  unfold zf_O_isSubject
  split
  · rw [if_neg (by omega)]
  · split
    · rw [if_neg (by omega)]
    · rw [if_pos (by omega)]
theorem pc_force {S : Sg} (x y : Int) (hR : Ria S 0 0) (hL : Rla S S 0 0) : Pc T0 S (zf_O_force x y) (zf_M_force x y) := by
  by_cases hx : 0 ≤ x ∧ x < 4
  · by_cases hy : 0 ≤ y ∧ y ≤ 400
    · obtain ⟨v, e1, e2, e3, -⟩ := pf_force hL.half x y
      refine Pc.same hR (a := pv v) ?_ ?_
      · unfold zf_O_force
        rw [pf_O_isSubject, zbd_s, if_pos hx, if_neg (by decide), pf_O_isWeek, zbd_s, if_pos hy, if_neg (by decide), e1, zbd_s, pv_s]
      · unfold zf_M_force
        rw [zlt_v, pf_M_in, zbd_s, if_pos (show 0 ≤ x ∧ x ≤ 3 by omega), if_neg (by decide), pf_M_in, zbd_s, if_pos hy, if_neg (by decide), e2, zbd_s]
    · refine Pc.same hR (a := -1) ?_ ?_
      · unfold zf_O_force
        rw [pf_O_isSubject, zbd_s, if_pos hx, if_neg (by decide), pf_O_isWeek, zbd_s, if_neg hy, if_pos rfl]
      · unfold zf_M_force
        rw [zlt_v, pf_M_in, zbd_s, if_pos (show 0 ≤ x ∧ x ≤ 3 by omega), if_neg (by decide), pf_M_in, zbd_s, if_neg hy, if_pos rfl]
  · refine Pc.same hR (a := -1) ?_ ?_
    · unfold zf_O_force
      rw [pf_O_isSubject, zbd_s, if_neg hx, if_pos rfl]
    · unfold zf_M_force
      rw [zlt_v, pf_M_in, zbd_s, if_neg (show ¬ (0 ≤ x ∧ x ≤ 3) by omega), if_pos rfl]
theorem pc_law {S : Sg} (l w : Int) (hR : Ria S 0 0) (hL : Rla S S 0 0) : Pc T0 S (zf_O_law l w) (zf_M_law l w) := by
  obtain ⟨hn, hn2, hl⟩ := id hL
  have eS := eSn S 0
  by_cases hx : 0 ≤ l ∧ l < S 0 0 16 0
  · have q := hl l hx.1 hx.2
    unfold Rl1 at q
    have h12 : 0 ≤ l ∧ l < 12 := by omega
    refine Pc.same hR (a := if w = 0 then S 0 0 17 l else if w = 1 then S 0 0 18 l else if w = 2 then S 0 0 19 l else if w = 3 then S 0 0 20 l else if w = 4 then S 0 0 21 l else if w = 5 then pv (S 0 0 22 l) else -1) ?_ ?_
    · unfold zf_O_law
      rw [pf_L_has, zbd_s, if_pos hx, if_neg (by decide)]
      simp only [zck_b h12, pv_s]
      simp only [ite_some]
    · unfold zf_M_law
      rw [zlt_v, pf_M_isLaw _ (by rw [eS]; omega), zbd_s, eS, hn, if_pos hx, if_neg (by decide), pf_W_subject h12, zbd_s, nS (by omega)]
      simp only [zck_b h12, eS, q, ite_some]
  · refine Pc.same hR (a := -1) ?_ ?_
    · unfold zf_O_law
      rw [pf_L_has, zbd_s, if_neg hx, if_pos rfl]
    · unfold zf_M_law
      rw [zlt_v, pf_M_isLaw _ (by rw [eS]; omega), zbd_s, eS, hn, if_neg hx, if_pos rfl]
