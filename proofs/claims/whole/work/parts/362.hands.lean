/-! ===== hands, filled ===== -/
/-- both fillings, one after the other, in one memory -/
theorem tw_fill1 {S : Sg} (h : Rw S S 0 0) (hcr : Rcr S) : ∃ (crew : Nat → Nat) (S1 : Sg), zf_C_fill 0 S = some (((nfl crew 8 : Nat) : Int), S1) ∧ CFr S S1 ∧ Rcr S1 ∧ (∀ i : Nat, i < 8 → crew i < 1099511627776 ∧ S1 20 0 0 (i : Int) = (crew i : Int)) ∧ (∀ U : Sg, CFr S U → ∃ T2, zf_W_fill 0 (zu U 9 0 0 4 0) = some (((nfl crew 8 : Nat) : Int), T2) ∧ WFr 0 (zu U 9 0 0 4 0) T2 ∧ ∀ i : Nat, i < 8 → T2 21 0 0 (i : Int) = (crew i : Int)) := by
  obtain ⟨crew, S1, T0, k1, k2, k3, k4, k5, k6⟩ := tw_fill h hcr
  refine ⟨crew, S1, k1, k3, k5, fun i hi => ⟨(k6 i hi).1, (k6 i hi).2.1⟩, fun U hU => ?_⟩
  have hT : Rw S (zu U 9 0 0 4 0) 0 0 := h.toT (gWk (fun g r k j a b => by rw [show zu U 9 0 0 4 0 g r k j = U g r k j from if_neg (by omega), hU g r k (by omega) (by omega) (by omega)]))
  obtain ⟨crew', S1', T2, l1, l2, -, l4, -, l6⟩ := tw_fill hT hcr
  rw [k1] at l1
  injection l1 with l1
  injection l1 with l1 l1b
  subst l1b
  rw [← l1] at l2
  exact ⟨T2, l2, l4, fun i hi => by rw [(l6 i hi).2.2.1, ← (l6 i hi).2.1, (k6 i hi).2.1]⟩
/-- what a call that only fills leaves as it was -/
def HF (S S2 : Sg) : Prop := ∀ (g : Nat) (r k j : Int), ¬ (g = 3 ∧ r = 0 ∧ 7 ≤ k ∧ k ≤ 14) → ¬ g = 20 → ¬ g = 4 → ¬ (g = 9 ∧ r = 0 ∧ k = 0 ∧ j = 4) → ¬ (g = 5 ∧ r = 0 ∧ (35 ≤ k ∧ k ≤ 38 ∨ k = 0 ∧ 47 ≤ j ∧ j ≤ 52)) → ¬ (g = 21 ∧ r = 0) → S2 g r k j = S g r k j
theorem HF.of {S S1 S2 : Sg} (h : CFr S S1) (h2 : WFr 0 (zu S1 9 0 0 4 0) S2) : HF S S2 := by
  intro g r k j a b c d e f
  rw [h2 g r k j e f, show zu S1 9 0 0 4 0 g r k j = S1 g r k j from if_neg d, h g r k a b c]
theorem HF.of0 {S S1 : Sg} (h : CFr S S1) : HF S (zu S1 9 0 0 4 0) := HF.of h (WFr.refl 0 _)
theorem Rcr.like {S S2 : Sg} (h : Rcr S) (h1 : S2 20 = S 20) (h2 : S2 3 = S 3) : Rcr S2 := by
  unfold Rcr at *
  rw [h1, h2]
  exact h
theorem HF.rcr {S1 S2 : Sg} (h : Rcr S1) (h2 : WFr 0 (zu S1 9 0 0 4 0) S2) : Rcr S2 := h.like (by
  funext r k j
  rw [h2 20 r k j (by omega) (by omega)]
  exact if_neg (by omega)) (by
  funext r k j
  rw [h2 3 r k j (by omega) (by omega)]
  exact if_neg (by omega))
theorem HF.rw {S S2 : Sg} (h : Rw S S 0 0) (hf : HF S S2) : Rw S2 S2 0 0 := by
  have eg : ∀ g : Nat, g = 0 ∨ g = 1 ∨ g = 13 ∨ g = 14 → S2 g = S g := by
    intro g hg
    funext r k j
    exact hf g r k j (by omega) (by omega) (by omega) (by omega) (by omega) (by omega)
  refine (h.toS (eg 0 (by omega)) (eg 1 (by omega)) (eg 13 (by omega)) (eg 14 (by omega))).toT (Wk.eq ?_ ?_ ?_ ?_ ?_)
  · intro i hi; exact hf 5 0 0 i (by omega) (by omega) (by omega) (by omega) (by omega) (by omega)
  · intro k h1 h2; funext j; exact hf 5 0 k j (by omega) (by omega) (by omega) (by omega) (by omega) (by omega)
  · funext r k j; exact hf 6 r k j (by omega) (by omega) (by omega) (by omega) (by omega) (by omega)
  · funext r k j; exact hf 7 r k j (by omega) (by omega) (by omega) (by omega) (by omega) (by omega)
  · funext r k j; exact hf 8 r k j (by omega) (by omega) (by omega) (by omega) (by omega) (by omega)
theorem tw_filled {S : Sg} (h : Rw S S 0 0) (hcr : Rcr S) : ∃ (a : Int) (S1 S2 : Sg), zf_O_filled S = some (a, S1) ∧ zf_M_filled S1 = some (a, S2) ∧ Rw S2 S2 0 0 ∧ Rcr S2 ∧ HF S S2 := by
  obtain ⟨crew, S1, k1, k2, k3, k4, k5⟩ := tw_fill1 h hcr
  obtain ⟨T2, l1, l2, -⟩ := k5 S1 k2
  have hf := HF.of k2 l2
  refine ⟨((nfl crew 8 : Nat) : Int), S1, T2, ?_, ?_, HF.rw h hf, HF.rcr k3 l2, hf⟩
  · unfold zf_O_filled
    rw [k1, zbd_s]
  · unfold zf_M_filled
    rw [zlt_v, l1, zbd_s]
theorem tw_hands {S : Sg} (x b : Int) (h : Rw S S 0 0) (hcr : Rcr S) : ∃ (a : Int) (S1 S2 : Sg), zf_O_hands x b S = some (a, S1) ∧ zf_M_hands x b S1 = some (a, S2) ∧ Rw S2 S2 0 0 ∧ Rcr S2 ∧ HF S S2 := by
  have hpo := h.1.2.2.2.1
  have hn8 := hpo.2.1
  have e25 : ∀ U : Sg, CFr S U → zu U 9 0 0 4 0 5 0 0 25 = S 0 0 26 0 := fun U hU => by
    rw [show zu U 9 0 0 4 0 5 0 0 25 = U 5 0 0 25 from if_neg (by omega), hU 5 0 0 (by omega) (by omega) (by omega)]
    exact hpo.1
  have ip : ∀ U : Sg, CFr S U → zf_M_isPost x (zu U 9 0 0 4 0) = some (if 0 ≤ x ∧ x < S 0 0 26 0 then 1 else 0, zu U 9 0 0 4 0) := fun U hU => by
    rw [pf_M_isPost x (by rw [e25 U hU]; exact hpo.2.1), e25 U hU]
  unfold zf_O_hands zf_M_hands
  rw [pf_Q_has, zbd_s]
  by_cases hx : 0 ≤ x ∧ x < S 0 0 26 0
  · rw [if_pos hx, if_neg n10]
    obtain ⟨crew, S1, k1, k2, k3, k4, k5⟩ := tw_fill1 h hcr
    obtain ⟨T2, l1, l2, l3⟩ := k5 S1 k2
    have hf := HF.of k2 l2
    have hx8 : 0 ≤ x ∧ x < 8 := by omega
    obtain ⟨i, rfl⟩ : ∃ i : Nat, x = (i : Int) := ⟨x.toNat, by omega⟩
    have hi : i < 8 := by omega
    have eA := (k4 i hi).2
    have eB := l3 i hi
    have eC := (k4 i hi).1
    rw [k1, zbd_s, zck_b hx8, zlt_v, eA]
    have gS : ∀ a : Int, (zlt (zu S1 9 0 0 4 0) fun S1 => zbd (zf_M_isPost (i : Int) S1) fun a2 S3 => if a2 = 0 then (some (-1, S3)) else (zbd (zf_W_fill (0) S3) fun a5 S6 => if b = 0 then (zck (0 ≤ (i : Int) ∧ (i : Int) < 8) <| some (zw (S6 21 0 0 (i : Int)), S6)) else (zck (0 ≤ (i : Int) ∧ (i : Int) < 8) <| some (zw (zlsr (S6 21 0 0 (i : Int)) 32), S6)))) = some (if b = 0 then zw (crew i : Int) else zw (zlsr (crew i : Int) 32), T2) := by
      intro _
      rw [zlt_v, ip S1 k2, zbd_s, if_pos hx, if_neg n10, l1, zbd_s, eB]
      by_cases hb : b = 0
      · rw [if_pos hb, if_pos hb, zck_b hx8]
      · rw [if_neg hb, if_neg hb, zck_b hx8]
    refine ⟨if b = 0 then zw (crew i : Int) else zw (zlus (crew i : Int) 32), S1, T2, ?_, ?_, HF.rw h hf, HF.rcr k3 l2, hf⟩
    · by_cases hb : b = 0
      · rw [if_pos hb, if_pos hb]
      · rw [if_neg hb, if_neg hb]
    · rw [gS 0]
      have e1 : zlus (crew i : Int) 32 = _ := zlus_n (a := crew i) (k := 32) (by omega) (by decide)
      have e2 : zlsr (crew i : Int) 32 = _ := zlsr_n (a := crew i) (k := 32) (by omega) (by decide)
      rw [e1, e2]
  · rw [if_neg hx, if_pos z00]
    have hf := HF.of0 (CFr.refl S)
    refine ⟨-1, S, zu S 9 0 0 4 0, rfl, ?_, HF.rw h hf, HF.rcr hcr (WFr.refl 0 _), hf⟩
    rw [zlt_v, ip S (CFr.refl S), zbd_s, if_neg hx, if_pos z00]
