/-! ===== a week: discontent ===== -/
/-- the crews as they are, by post -/
def Cru (S T : Sg) (w NP : Int) : Prop := ∀ j, 0 ≤ j → j < NP → ∃ M : Nat, S 20 0 0 j = (M : Int) ∧ T 5 w 37 j = (if M = 0 then 0 else 1)
theorem Cru.to {S T S2 T2 : Sg} {r w NP : Int} (h : Cru S T w NP) (a : AG r S S2) (b : BG w T T2) : Cru S2 T2 w NP := by
  intro j p q
  rw [a.1 20 0 0 (by unfold AK; omega), b 5 w 37 j (by unfold BK; omega)]
  exact h j p q
theorem w_anyFilled {r w k NP : Int} {S T : Sg} (h : Rw S T r w) (hc : Cru S T w NP) (hNP : S 0 r 26 0 = NP) (h8 : NP ≤ 8) : ∀ (c n n2 : Nat) (i : Int), 0 ≤ i → i + c = NP → c < n → c < n2 → ∃ v : Int, zf_A_isFilled_2 r n k i S = some (v, S) ∧ zf_W_anyFilled_2 w n2 k i T = some (v, T)
  | 0, n + 1, n2 + 1, i, hi, hc1, _, _ => by
    have hp := h.1.2.2.2.1.1
    rw [zf_A_isFilled_2, if_pos (show S 0 r 26 0 ≤ i by omega), zf_W_anyFilled_2, if_pos (show T 5 w 0 25 ≤ i by omega)]
    exact ⟨0, rfl, rfl⟩
  | c + 1, n + 1, n2 + 1, i, hi, hc1, h1, h2 => by
    have hp := h.1.2.2.2.1.1
    have hi8 : 0 ≤ i ∧ i < 8 := by omega
    obtain ⟨q1, q2, q3, -⟩ := h.1.2.2.2.1.2.2 i hi (by omega)
    obtain ⟨v, k1, k2⟩ := w_anyFilled (k := k) h hc hNP h8 c n n2 (i + 1) (by omega) (by omega) (by omega) (by omega)
    obtain ⟨M, m1, m2⟩ := hc i hi (by omega)
    have e1 : zf_A_isFilled_42 r (zf_A_isFilled_2 r n) k i S = some (v, S) := by
      unfold zf_A_isFilled_42
      rw [zlt_v, zw_in (by omega) (by omega)]
      exact k1
    have e2 : zf_W_anyFilled_31 w (zf_W_anyFilled_2 w n2) k i T = some (v, T) := by
      unfold zf_W_anyFilled_31
      rw [zlt_v, zw_in (by omega) (by omega)]
      exact k2
    rw [zf_A_isFilled_2, if_neg (show ¬ S 0 r 26 0 ≤ i by omega), zck_b hi8, m1, zf_W_anyFilled_2, if_neg (show ¬ T 5 w 0 25 ≤ i by omega), zck_b hi8, m2, q3]
    by_cases hM : M = 0
    · rw [if_pos (show zcmp (M : Int) 0 = 0 by rw [zcmp_0]; omega), if_pos hM, if_pos z00]
      exact ⟨v, e1, e2⟩
    · rw [if_neg (show ¬ zcmp (M : Int) 0 = 0 by rw [zcmp_0]; omega), if_neg hM, if_neg n10]
      by_cases e : S 0 r 29 i = k
      · rw [if_pos e, if_pos e]
        exact ⟨1, rfl, rfl⟩
      · rw [if_neg e, if_neg e]
        exact ⟨v, e1, e2⟩
/-- whether one of them is so -/
def hasK (f : Int → Bool) (i : Int) : Nat → Bool
  | 0 => false
  | k + 1 => f i || hasK f (i + 1) k
def isCh (S : Sg) (r m : Int) : Int → Bool := fun p => decide (S 0 r 9 p = m) && decide (knd S r p (S 0 r 0 0) = 1)
def isOl (S : Sg) (r d : Int) : Int → Bool := fun p => decide (knd S r p (S 0 r 0 0) = 4) && decide (S 0 r 8 p = d)
theorem w_isMother {r w m : Int} {S T : Sg} (h : Rw S T r w) (hm : 0 ≤ m) : ∀ (c n : Nat) (i : Int), 0 ≤ i → i + c = S 0 r 6 0 → c < n → zf_W_isMother_2 w n m i T = some (if hasK (isCh S r m) i c = true then 1 else 0, T)
  | 0, n + 1, i, hi, hc, _ => by
    have hn := h.1.2.2.1.1
    rw [zf_W_isMother_2, if_pos (show T 5 w 0 1 ≤ i by omega)]
    rfl
  | c + 1, n + 1, i, hi, hc, h1 => by
    have hpp := h.1.2.2.1
    have hn := hpp.1
    have hn40 := hpp.2.1
    have hx : 0 ≤ i ∧ i < 40 := by omega
    have hwk := h.mc.1
    have hwr := h.mc.2.2.2.2.2.2.1
    obtain ⟨c1, c2, c3, c4, c5, c6, c7, c8, c9, c10, c11, c12, -⟩ := hpp.2.2 i hi (by omega)
    have e2 : zf_W_isMother_31 w (zf_W_isMother_2 w n) m i T = some (if hasK (isCh S r m) (i + 1) c = true then 1 else 0, T) := by
      unfold zf_W_isMother_31
      rw [zlt_v, zw_in (by omega) (by omega)]
      exact w_isMother h hm c n (i + 1) (by omega) (by omega) (by omega)
    rw [zf_W_isMother_2, if_neg (show ¬ T 5 w 0 1 ≤ i by omega), zck_b hx, c3]
    show _ = some (if (isCh S r m i || hasK (isCh S r m) (i + 1) c) = true then 1 else 0, T)
    by_cases e : S 0 r 9 i = m
    · rw [if_pos (show pv (S 0 r 9 i) = m by rw [pv_i hm (by omega)]; exact e), pf_W_kind hx (by omega) (by omega), zbd_s, c5, c6, c1, c4, hwk]
      by_cases ek : kindS (S 0 r 11 i) (S 0 r 12 i) (S 0 r 7 i) (S 0 r 10 i) (S 0 r 0 0) = 1
      · rw [if_pos ek, show isCh S r m i = true by unfold isCh knd; rw [decide_eq_true e, decide_eq_true ek]; rfl]
        rfl
      · rw [if_neg ek, show isCh S r m i = false by unfold isCh knd; rw [decide_eq_false ek, Bool.and_false], Bool.false_or]
        exact e2
    · rw [if_neg (show ¬ pv (S 0 r 9 i) = m by rw [pv_i hm (by omega)]; exact e), show isCh S r m i = false by unfold isCh; rw [decide_eq_false e, Bool.false_and], Bool.false_or]
      exact e2
theorem w_oldIn {r w d : Int} {S T : Sg} (h : Rw S T r w) : ∀ (c n : Nat) (i : Int), 0 ≤ i → i + c = S 0 r 6 0 → c < n → zf_W_oldIn_2 w n d i T = some (if hasK (isOl S r d) i c = true then 1 else 0, T)
  | 0, n + 1, i, hi, hc, _ => by
    have hn := h.1.2.2.1.1
    rw [zf_W_oldIn_2, if_pos (show T 5 w 0 1 ≤ i by omega)]
    rfl
  | c + 1, n + 1, i, hi, hc, h1 => by
    have hpp := h.1.2.2.1
    have hn := hpp.1
    have hn40 := hpp.2.1
    have hx : 0 ≤ i ∧ i < 40 := by omega
    have hwk := h.mc.1
    have hwr := h.mc.2.2.2.2.2.2.1
    obtain ⟨c1, c2, c3, c4, c5, c6, c7, c8, c9, c10, c11, c12, -⟩ := hpp.2.2 i hi (by omega)
    have e2 : zf_W_oldIn_31 w (zf_W_oldIn_2 w n) d i T = some (if hasK (isOl S r d) (i + 1) c = true then 1 else 0, T) := by
      unfold zf_W_oldIn_31
      rw [zlt_v, zw_in (by omega) (by omega)]
      exact w_oldIn h c n (i + 1) (by omega) (by omega) (by omega)
    rw [zf_W_oldIn_2, if_neg (show ¬ T 5 w 0 1 ≤ i by omega), pf_W_kind hx (by omega) (by omega), zbd_s, c5, c6, c1, c4, hwk, zck_b hx, c2]
    show _ = some (if (isOl S r d i || hasK (isOl S r d) (i + 1) c) = true then 1 else 0, T)
    by_cases ek : kindS (S 0 r 11 i) (S 0 r 12 i) (S 0 r 7 i) (S 0 r 10 i) (S 0 r 0 0) = 4
    · rw [if_pos ek]
      by_cases e : S 0 r 8 i = d
      · rw [if_pos e, show isOl S r d i = true by unfold isOl knd; rw [decide_eq_true e, decide_eq_true ek]; rfl]
        rfl
      · rw [if_neg e, show isOl S r d i = false by unfold isOl knd; rw [decide_eq_false e, Bool.and_false], Bool.false_or]
        exact e2
    · rw [if_neg ek, show isOl S r d i = false by unfold isOl knd; rw [decide_eq_false ek, Bool.false_and], Bool.false_or]
      exact e2
/-- the class notes who rears, and where the old are -/
theorem c_cares {S : Sg} {r : Int} (hn : S 0 r 6 0 ≤ 40) (hw : 0 ≤ S 0 r 0 0 ∧ S 0 r 0 0 ≤ 400) (hp : ∀ i, 0 ≤ i → i < S 0 r 6 0 → (-5000 ≤ S 0 r 7 i ∧ S 0 r 7 i ≤ 400) ∧ (0 ≤ S 0 r 8 i ∧ S 0 r 8 i < 12) ∧ (-1 ≤ S 0 r 9 i ∧ S 0 r 9 i < i)) : ∀ (c n : Nat) (i : Int) (U : Sg), 0 ≤ i → i + c = S 0 r 6 0 → c < n → U 0 = S 0 → ∃ S2, zf_A_noteCares_18 r n i U = some (0, S2) ∧ (∀ (g : Nat) (r' k : Int), ¬ (g = 3 ∧ r' = 0 ∧ (k = 19 ∨ k = 20)) → S2 g r' k = U g r' k) ∧ (∀ m, 0 ≤ m → S2 3 0 19 m = (if hasK (isCh S r m) i c = true then 1 else U 3 0 19 m)) ∧ (∀ d, S2 3 0 20 d = (if hasK (isOl S r d) i c = true then 1 else U 3 0 20 d))
  | 0, n + 1, i, U, hi, hc, _, h0 => by
    rw [zf_A_noteCares_18, h0, if_pos (by omega)]
    exact ⟨U, rfl, fun _ _ _ _ => rfl, fun _ _ => rfl, fun _ => rfl⟩
  | c + 1, n + 1, i, U, hi, hc, hn1, h0 => by
    obtain ⟨p7, p8, p9⟩ := hp i hi (by omega)
    have hx : 0 ≤ i ∧ i < 40 := by omega
    have go : ∀ V : Sg, V 0 = S 0 → ∃ S2, zf_A_noteCares_94 r (zf_A_noteCares_18 r n) i V = some (0, S2) ∧ (∀ (g : Nat) (r' k : Int), ¬ (g = 3 ∧ r' = 0 ∧ (k = 19 ∨ k = 20)) → S2 g r' k = V g r' k) ∧ (∀ m, 0 ≤ m → S2 3 0 19 m = (if hasK (isCh S r m) (i + 1) c = true then 1 else V 3 0 19 m)) ∧ (∀ d, S2 3 0 20 d = (if hasK (isOl S r d) (i + 1) c = true then 1 else V 3 0 20 d)) := by
      intro V hV
      obtain ⟨S2, k1, k2, k3, k4⟩ := c_cares hn hw hp c n (i + 1) V (by omega) (by omega) (by omega) hV
      refine ⟨S2, ?_, k2, k3, k4⟩
      unfold zf_A_noteCares_94
      rw [zlt_v, zw_in (by omega) (by omega)]
      exact k1
    have hch : ∀ m, hasK (isCh S r m) i (c + 1) = (isCh S r m i || hasK (isCh S r m) (i + 1) c) := fun _ => rfl
    have hol : ∀ d, hasK (isOl S r d) i (c + 1) = (isOl S r d i || hasK (isOl S r d) (i + 1) c) := fun _ => rfl
    have ek : zf_P_kind r i (U 0 r 0 0) U = some (knd S r i (S 0 r 0 0), U) := by
      rw [pf_P_kind hx (by rw [h0]; exact p7) (by rw [h0]; exact hw), h0]
      rfl
    rw [zf_A_noteCares_18, h0, if_neg (show ¬ S 0 r 6 0 ≤ i by omega)]
    rw [h0] at ek
    rw [ek, zbd_s, h0]
    unfold zf_A_noteCares_74
    by_cases e1 : knd S r i (S 0 r 0 0) = 1
    · have o0 : ∀ d, isOl S r d i = false := fun d => by unfold isOl; rw [e1]; rfl
      rw [if_pos e1, if_neg (show ¬ knd S r i (S 0 r 0 0) = 4 by omega), zck_b hx]
      by_cases m0 : S 0 r 9 i < 0
      · rw [if_pos m0]
        obtain ⟨S2, k1, k2, k3, k4⟩ := go U h0
        refine ⟨S2, k1, k2, fun m hm => ?_, fun d => ?_⟩
        · rw [k3 m hm, hch, show isCh S r m i = false by unfold isCh; rw [decide_eq_false (by omega), Bool.false_and], Bool.false_or]
        · rw [k4 d, hol, o0, Bool.false_or]
      · rw [if_neg m0, zck_b (by omega), zlt_v, if_neg (show ¬ knd S r i (S 0 r 0 0) = 4 by omega)]
        obtain ⟨S2, k1, k2, k3, k4⟩ := go (zu U 3 0 19 (S 0 r 9 i) 1) (by funext r' k; rw [zu_ne (by omega), h0])
        refine ⟨S2, k1, fun g r' k q => by rw [k2 g r' k q, zu_ne (by omega)], fun m hm => ?_, fun d => ?_⟩
        · rw [k3 m hm, hch]
          by_cases em : m = S 0 r 9 i
          · rw [em, zu_at, show isCh S r (S 0 r 9 i) i = true by unfold isCh; rw [decide_eq_true rfl, decide_eq_true e1]; rfl, Bool.true_or, if_pos rfl]
            split <;> rfl
          · rw [zu_pl em, show isCh S r m i = false by unfold isCh; rw [decide_eq_false (fun q => em q.symm), Bool.false_and], Bool.false_or]
        · rw [k4 d, hol, o0, Bool.false_or, zu_ne (by omega)]
    · have o1 : ∀ m, isCh S r m i = false := fun m => by unfold isCh; rw [decide_eq_false e1, Bool.and_false]
      rw [if_neg e1]
      by_cases e4 : knd S r i (S 0 r 0 0) = 4
      · rw [if_pos e4, zck_b hx, h0, zck_b p8, zlt_v]
        obtain ⟨S2, k1, k2, k3, k4⟩ := go (zu U 3 0 20 (S 0 r 8 i) 1) (by funext r' k; rw [zu_ne (by omega), h0])
        refine ⟨S2, k1, fun g r' k q => by rw [k2 g r' k q, zu_ne (by omega)], fun m hm => ?_, fun d => ?_⟩
        · rw [k3 m hm, hch, o1, Bool.false_or, zu_ne (by omega)]
        · rw [k4 d, hol]
          by_cases em : d = S 0 r 8 i
          · rw [em, zu_at, show isOl S r (S 0 r 8 i) i = true by unfold isOl; rw [decide_eq_true rfl, decide_eq_true e4]; rfl, Bool.true_or, if_pos rfl]
            split <;> rfl
          · rw [zu_pl em, show isOl S r d i = false by unfold isOl; rw [decide_eq_false (show ¬ S 0 r 8 i = d from fun q => em q.symm), Bool.and_false], Bool.false_or]
      · rw [if_neg e4]
        obtain ⟨S2, k1, k2, k3, k4⟩ := go U h0
        refine ⟨S2, k1, k2, fun m hm => ?_, fun d => ?_⟩
        · rw [k3 m hm, hch, o1, Bool.false_or]
        · rw [k4 d, hol, show isOl S r d i = false by unfold isOl; rw [decide_eq_false e4, Bool.false_and], Bool.false_or]
