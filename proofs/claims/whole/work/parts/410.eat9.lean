/-! ===== a week: all eat ===== -/
theorem tw_eat {S T : Sg} {r w : Int} (h : Rw S T r w) : ∃ (L : Int) (S2 T2 : Sg), (L = 0 ∨ L = 1) ∧ zf_A_feed r S = some (L, S2) ∧ zf_W_eat w T = some (0, T2) ∧ Rw S2 T2 r w ∧ AG r S S2 ∧ BG w T T2 ∧ S2 3 0 15 = S 3 0 15 ∧ S2 3 0 18 = S 3 0 18 ∧ S2 0 r 11 = S 0 r 11 ∧ T2 5 w 34 0 = L := by
  by_cases he : sF (nds S r) 0 (S 0 r 6 0).toNat ≤ S 0 r 32 0
  · obtain ⟨S2, T2, k1, k2, k3, k4, k5, k6, k7, k8⟩ := tw_eatA h he
    exact ⟨0, S2, T2, Or.inl rfl, k1, k2, k3, k4, k5, by rw [k6], by rw [k6], k7, k8⟩
  · obtain ⟨S2, T2, k1, k2, k3, k4, k5, k6, k7, k8, k9⟩ := tw_eatB h (by omega)
    exact ⟨1, S2, T2, Or.inr rfl, k1, k2, k3, k4, k5, k6, k7, k8, k9⟩
