/-! ===== one table changes: the others are kept ===== -/
def Tq (g : Nat) (r k : Int) : Prop := T0 g r k ∨ (g = 0 ∧ r = 0 ∧ 26 ≤ k ∧ k ≤ 30) ∨ (g = 5 ∧ r = 0 ∧ 21 ≤ k ∧ k ≤ 24) ∨ (g = 5 ∧ r = 0 ∧ k = 0)
def Ts (g : Nat) (r k : Int) : Prop := T0 g r k ∨ (g = 0 ∧ r = 0 ∧ 31 ≤ k ∧ k ≤ 36) ∨ (g = 5 ∧ r = 0 ∧ 25 ≤ k ∧ k ≤ 29) ∨ (g = 5 ∧ r = 0 ∧ k = 0)
def Tc (g : Nat) (r k : Int) : Prop := T0 g r k ∨ (g = 0 ∧ r = 0 ∧ 0 ≤ k ∧ k ≤ 1) ∨ (g = 5 ∧ r = 0 ∧ 30 ≤ k ∧ k ≤ 31) ∨ (g = 5 ∧ r = 0 ∧ k = 0)
theorem Tq0 : ∀ g r k, T0 g r k → Tq g r k := fun _ _ _ q => Or.inl q
theorem Ts0 : ∀ g r k, T0 g r k → Ts g r k := fun _ _ _ q => Or.inl q
theorem Tc0 : ∀ g r k, T0 g r k → Tc g r k := fun _ _ _ q => Or.inl q
theorem Ria.withPo {S S2 : Sg} (h : Ria S 0 0) (hf : Fr Tq S S2) (hm5 : ∀ i, i ≠ 25 → S2 5 0 0 i = S 5 0 0 i) (hx : Rpo S2 0 0) : Ria S2 0 0 := by
  obtain ⟨h1, h2, h3, h4, h5, h6⟩ := h
  have e0 : ∀ k, k < 26 ∨ 30 < k → S2 0 0 k = S 0 0 k := fun k hk => hf _ _ _ (by unfold Tq T0; omega)
  have e5 : ∀ k, (0 < k ∧ k < 21) ∨ 24 < k → S2 5 0 k = S 5 0 k := fun k hk => hf _ _ _ (by unfold Tq T0; omega)
  have eg : ∀ (g : Nat) (r k : Int), g ≠ 0 → g ≠ 5 → g ≠ 9 → S2 g r k = S g r k := fun g r k a b c => hf _ _ _ (by unfold Tq T0; omega)
  exact ⟨h1.to (e0 _ (by omega)) (e0 _ (by omega)) (e5 _ (by omega)) (e5 _ (by omega)) (fun i _ => hm5 i (by omega)), h2.to (fun k _ _ => e0 _ (by omega)) (fun k _ _ => e5 _ (by omega)), h3.to (by rw [e0 0 (by omega)]) (fun k _ _ => e0 _ (by omega)) (fun k _ _ => e5 _ (by omega)) (hm5 1 (by decide)), hx, h5.to (fun k _ _ => e0 _ (by omega)) (fun k _ _ => e5 _ (by omega)) (hm5 33 (by decide)), h6.to (fun k _ _ => eg _ _ _ (by decide) (by decide) (by decide)) (fun k _ _ => eg _ _ _ (by decide) (by decide) (by decide)) (fun k _ _ => eg _ _ _ (by decide) (by decide) (by decide)) (e5 _ (by omega)) (e5 _ (by omega))⟩
theorem Ria.withSt {S S2 : Sg} (h : Ria S 0 0) (hf : Fr Ts S S2) (hm5 : ∀ i, i ≠ 33 → S2 5 0 0 i = S 5 0 0 i) (hx : Rst S2 0 0) : Ria S2 0 0 := by
  obtain ⟨h1, h2, h3, h4, h5, h6⟩ := h
  have e0 : ∀ k, k < 31 ∨ 36 < k → S2 0 0 k = S 0 0 k := fun k hk => hf _ _ _ (by unfold Ts T0; omega)
  have e5 : ∀ k, (0 < k ∧ k < 25) ∨ 29 < k → S2 5 0 k = S 5 0 k := fun k hk => hf _ _ _ (by unfold Ts T0; omega)
  have eg : ∀ (g : Nat) (r k : Int), g ≠ 0 → g ≠ 5 → g ≠ 9 → S2 g r k = S g r k := fun g r k a b c => hf _ _ _ (by unfold Ts T0; omega)
  exact ⟨h1.to (e0 _ (by omega)) (e0 _ (by omega)) (e5 _ (by omega)) (e5 _ (by omega)) (fun i _ => hm5 i (by omega)), h2.to (fun k _ _ => e0 _ (by omega)) (fun k _ _ => e5 _ (by omega)), h3.to (by rw [e0 0 (by omega)]) (fun k _ _ => e0 _ (by omega)) (fun k _ _ => e5 _ (by omega)) (hm5 1 (by decide)), h4.to (fun k _ _ => e0 _ (by omega)) (fun k _ _ => e5 _ (by omega)) (hm5 25 (by decide)), hx, h6.to (fun k _ _ => eg _ _ _ (by decide) (by decide) (by decide)) (fun k _ _ => eg _ _ _ (by decide) (by decide) (by decide)) (fun k _ _ => eg _ _ _ (by decide) (by decide) (by decide)) (e5 _ (by omega)) (e5 _ (by omega))⟩
theorem Ria.withSc {S S2 : Sg} (h : Ria S 0 0) (hf : Fr Tc S S2) (h00 : S2 0 0 0 0 = S 0 0 0 0) (hm5 : ∀ i, i = 1 ∨ i = 25 ∨ i = 33 → S2 5 0 0 i = S 5 0 0 i) (hx : Rsc S2 0 0) : Ria S2 0 0 := by
  obtain ⟨h1, h2, h3, h4, h5, h6⟩ := h
  have e0 : ∀ k, k < 0 ∨ 1 < k → S2 0 0 k = S 0 0 k := fun k hk => hf _ _ _ (by unfold Tc T0; omega)
  have e5 : ∀ k, (0 < k ∧ k < 30) ∨ 31 < k → S2 5 0 k = S 5 0 k := fun k hk => hf _ _ _ (by unfold Tc T0; omega)
  have eg : ∀ (g : Nat) (r k : Int), g ≠ 0 → g ≠ 5 → g ≠ 9 → S2 g r k = S g r k := fun g r k a b c => hf _ _ _ (by unfold Tc T0; omega)
  exact ⟨hx, h2.to (fun k _ _ => e0 _ (by omega)) (fun k _ _ => e5 _ (by omega)), h3.to h00 (fun k _ _ => e0 _ (by omega)) (fun k _ _ => e5 _ (by omega)) (hm5 1 (by decide)), h4.to (fun k _ _ => e0 _ (by omega)) (fun k _ _ => e5 _ (by omega)) (hm5 25 (by decide)), h5.to (fun k _ _ => e0 _ (by omega)) (fun k _ _ => e5 _ (by omega)) (hm5 33 (by decide)), h6.to (fun k _ _ => eg _ _ _ (by decide) (by decide) (by decide)) (fun k _ _ => eg _ _ _ (by decide) (by decide) (by decide)) (fun k _ _ => eg _ _ _ (by decide) (by decide) (by decide)) (e5 _ (by omega)) (e5 _ (by omega))⟩
