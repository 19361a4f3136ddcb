/-! ===== weeks go by, and are noted ===== -/
def Rr2 (S T : Sg) (r w : Int) : Prop := ∀ j q, 0 ≤ j → j < S 0 r 0 0 → 0 ≤ q → q < 5 → T 8 w q j = S 3 0 1 (5 * j + q)
theorem Rcr.to2 {S S2 : Sg} (h : Rcr S) (h20 : S2 20 = S 20) (h3 : S2 3 0 12 = S 3 0 12) (h10 : S2 3 0 10 = S 3 0 10) : Rcr S2 := by
  unfold Rcr at *
  rw [h20, h3, h10]
  exact h
theorem zu3_0 (Z : Sg) (a b c d : Int) : zu Z 3 a b c d 0 = Z 0 := by
  funext r k i
  exact if_neg (fun e => absurd e.1 (by decide))
theorem c_noted {S : Sg} {x : Int} (hx : 0 ≤ x ∧ x < 400) (hn : 0 ≤ S 0 0 6 0 ∧ S 0 0 6 0 ≤ 40) : ∃ S2, zf_O_noteRecord x S = some (0, S2) ∧ (∀ (g : Nat) (r k : Int), ¬ (g = 3 ∧ r = 0 ∧ k = 1) → S2 g r k = S g r k) ∧ (∀ q, 0 ≤ q → q < 5 → S2 3 0 1 (5 * x + q) = rcv S 0 (S 3 0 15 7) q) ∧ (∀ i, ¬ (5 * x ≤ i ∧ i < 5 * x + 5) → S2 3 0 1 i = S 3 0 1 i) := by
  have eI : ∀ (Z : Sg) (t : Int), Z 0 = S 0 → zf_P_in 0 t Z = some (sF (inC S 0 t) 0 (S 0 0 6 0).toNat, Z) := by
    intro Z t hZ
    rw [pf_P_in (by rw [hZ]; exact hn)]
    unfold inC
    rw [hZ]
  have e15 : ∀ (Z : Sg) (c d : Int), zu Z 3 0 1 c d 3 0 15 = Z 3 0 15 := fun Z c d => zu_ne (by omega)
  unfold zf_O_noteRecord
  rw [if_neg (by omega), if_pos hx.2, zlt_v, zw_in (x := 5 * x) (by omega) (by omega), eI S 0 rfl, zbd_s, zck_b (by omega), zlt_v, eI _ 1 (zu3_0 _ _ _ _ _), zbd_s, zw_in (x := 5 * x + 1) (by omega) (by omega), zck_b (by omega), zlt_v, zw_in (x := 5 * x + 2) (by omega) (by omega), zck_b (by omega), zlt_v, zw_in (x := 5 * x + 3) (by omega) (by omega), zck_b (by omega), zlt_v, zw_in (x := 5 * x + 4) (by omega) (by omega), zck_b (by omega), zlt_v]
  simp only [zu3_0, e15]
  refine ⟨_, rfl, ?_, ?_, ?_⟩
  · intro g r k q
    rw [zu_ne q, zu_ne q, zu_ne q, zu_ne q, zu_ne q]
  · intro q a b
    have e : q = 0 ∨ q = 1 ∨ q = 2 ∨ q = 3 ∨ q = 4 := by omega
    unfold rcv
    rcases e with e | e | e | e | e <;> subst e
    · rw [zu_pl (by omega), zu_pl (by omega), zu_pl (by omega), zu_pl (by omega), if_pos rfl, show 5 * x + 0 = 5 * x by omega, zu_at]
    · rw [zu_pl (by omega), zu_pl (by omega), zu_pl (by omega), zu_at, if_neg (by decide), if_pos rfl]
    · rw [zu_pl (by omega), zu_pl (by omega), zu_at, if_neg (by decide), if_neg (by decide), if_pos rfl]
    · rw [zu_pl (by omega), zu_at, if_neg (by decide), if_neg (by decide), if_neg (by decide), if_pos rfl]
    · rw [zu_at, if_neg (by decide), if_neg (by decide), if_neg (by decide), if_neg (by decide)]
  · intro i q
    rw [zu_pl (by omega), zu_pl (by omega), zu_pl (by omega), zu_pl (by omega), zu_pl (by omega)]
theorem pass_fr {S S2 : Sg} {r a : Int} (h : zf_A_pass r S = some (a, S2)) : Fm (zr_A_pass r) S S2 := zk_A_pass (W := zr_A_pass r) (fun _ _ _ _ e => e) S (Fm.refl _ _) a S2 h
theorem step_fr {T T2 : Sg} {w a : Int} (h : zf_W_step w T = some (a, T2)) : Fm (zr_W_step w) T T2 := zk_W_step (W := zr_W_step w) (fun _ _ _ _ e => e) T (Fm.refl _ _) a T2 h
theorem Fm.row {W : Nat → Int → Int → Int → Prop} {S S2 : Sg} (h : Fm W S S2) {g : Nat} {r k : Int} (hw : ∀ i, ¬ W g r k i) : S2 g r k = S g r k := by
  funext i
  exact h g r k i (hw i)
theorem Fm.grp {W : Nat → Int → Int → Int → Prop} {S S2 : Sg} (h : Fm W S S2) {g : Nat} (hw : ∀ r k i, ¬ W g r k i) : S2 g = S g := by
  funext r k i
  exact h g r k i (hw r k i)
set_option maxRecDepth 20000 in
theorem w_weeks {N : Int} : ∀ (c n n2 : Nat) (i : Int) (S T : Sg), 0 ≤ i → i + c = N → N ≤ 52 → S 0 0 0 0 + c ≤ 400 → c < n → c < n2 → Rw S T 0 0 → Rcr S → Rr2 S T 0 0 → (∀ k i, zn (S 14 0 k i)) → ∃ (a : Int) (S2 T2 : Sg), zf_O_weeks_33 n N i S = some (a, S2) ∧ zf_M_weeks_37 n2 N i T = some (a, T2) ∧ Rw S2 T2 0 0 ∧ Rcr S2 ∧ Rr2 S2 T2 0 0 ∧ S 0 0 0 0 ≤ S2 0 0 0 0 ∧ (∀ j, j < S 0 0 0 0 → ∀ q, 0 ≤ q → q < 5 → S2 3 0 1 (5 * j + q) = S 3 0 1 (5 * j + q))
  | 0, n + 1, n2 + 1, i, S, T, hi, hc, hN, h4, _, _, h, hcr, hr, hz => by
    have h3 := h.1.2.2.1
    have := h3.1
    have := h3.2.1
    rw [zf_O_weeks_33, if_pos (show N ≤ i by omega), zf_M_weeks_37, if_pos (show N ≤ i by omega), pf_P_in h3.2.1, zbd_s, pf_W_inState (by omega), zbd_s, in_like2 h3]
    exact ⟨_, S, T, rfl, rfl, h, hcr, hr, Int.le_refl _, fun _ _ _ _ _ => rfl⟩
  | c + 1, n + 1, n2 + 1, i, S, T, hi, hc, hN, h4, h1, h2, h, hcr, hr, hz => by
    have hw0 := h.mc.2.2.2.2.2.2.1
    obtain ⟨L0, L1, L2, L3, A, T2, -, -, -, -, a1, a2, a3, a4, a5, -, -, -, -, a6, a7⟩ := tw_pass h hcr hz (by omega)
    have fA := pass_fr a1
    have hn := a3.1.2.2.1.2.1
    obtain ⟨B, b1, b2, b3, b4⟩ := c_noted (S := A) (x := S 0 0 0 0) (by omega) hn
    have bg : ∀ g : Nat, g ≠ 3 → B g = A g := fun g hg => by funext r' k'; exact b2 g r' k' (by omega)
    have rB : Rw B T2 0 0 := a3.toS (bg 0 (by decide)) (bg 1 (by decide)) (bg 13 (by decide)) (bg 14 (by decide))
    have cB : Rcr B := a4.to2 (bg 20 (by decide)) (b2 3 0 12 (by omega)) (b2 3 0 10 (by omega))
    have wB : B 0 0 0 0 = S 0 0 0 0 + 1 := by rw [bg 0 (by decide), a5]
    have A31 : A 3 0 1 = S 3 0 1 := fA.row (fun i => by unfold zr_A_pass; omega)
    have A14 : A 14 = S 14 := fA.grp (fun r k i => by unfold zr_A_pass; omega)
    have hold : ∀ j, j < S 0 0 0 0 → ∀ q, 0 ≤ q → q < 5 → B 3 0 1 (5 * j + q) = S 3 0 1 (5 * j + q) := fun j hj q q1 q2 => by rw [b4 _ (by omega), A31]
    have hB : Rr2 B T2 0 0 := by
      intro j q j1 j2 q1 q2
      rw [wB] at j2
      by_cases e : j = S 0 0 0 0
      · rw [e, a6 q q1 q2, b3 q q1 q2]
      · rw [a7 q j e, hold j (by omega) q q1 q2]
        exact hr j q j1 (by omega) q1 q2
    obtain ⟨a, C, T3, k1, k2, k3, k4, k5, k6, k7⟩ := w_weeks c n n2 (i + 1) B T2 (by omega) (by omega) hN (by omega) (by omega) (by omega) rB cB hB (fun k i => by rw [bg 14 (by decide), A14]; exact hz k i)
    refine ⟨a, C, T3, ?_, ?_, k3, k4, k5, by omega, fun j hj q q1 q2 => ?_⟩
    · rw [zf_O_weeks_33, if_neg (show ¬ N ≤ i by omega), a1, zbd_s, a5, zw_in (x := S 0 0 0 0 + 1 - 1) (by omega) (by omega), show S 0 0 0 0 + 1 - 1 = S 0 0 0 0 by omega, b1, zbd_s, zlt_v, zw_in (x := i + 1) (by omega) (by omega)]
      exact k1
    · rw [zf_M_weeks_37, if_neg (show ¬ N ≤ i by omega), a2, zbd_s, zlt_v, zw_in (x := i + 1) (by omega) (by omega)]
      exact k2
    · rw [k7 j (by omega) q q1 q2, hold j hj q q1 q2]
