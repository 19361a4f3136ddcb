/-! ===== a week: the last of it, one by one ===== -/
theorem w_rest {S T : Sg} {r w : Int} (h : Rw S T r w) : ∀ (c n n2 : Nat) (i x : Int) (A B : Sg), 0 ≤ i → i + c = S 0 r 6 0 → c < n → c < n2 → CE S A → EF w T B → (0 ≤ x ∧ x ≤ 9999) → (∀ j, 0 ≤ j → j < S 0 r 6 0 → A 3 0 16 j = B 5 w 40 j ∧ (A 3 0 16 j = 0 ∨ A 3 0 16 j = 1) ∧ A 3 0 17 j = B 5 w 39 j ∧ (0 ≤ A 3 0 17 j ∧ A 3 0 17 j ≤ 6) ∧ (S 0 r 11 j ≠ 0 → A 3 0 17 j = 0)) → (∀ j, i ≤ j → j < S 0 r 6 0 → (A 3 0 16 j = 1 → x ≤ 0 ∨ nds S r j ≤ A 3 0 17 j) ∧ A 3 0 17 j ≤ 5) → ∃ (A2 B2 : Sg) (x' : Int), zf_A_shareOut_226 r n x i A = zf_A_shareOut_279 r x' A2 ∧ zf_W_eat_308 w n2 x i B = zf_W_eat_386 w 4096 0 (zu B2 5 w 25 0 x') ∧ (0 ≤ x' ∧ x' ≤ x) ∧ CE S A2 ∧ EF w T B2 ∧ (∀ g r' k, ¬ (g = 5 ∧ r' = w ∧ k = 39) → B2 g r' k = B g r' k) ∧ (∀ j, 0 ≤ j → j < S 0 r 6 0 → A2 3 0 17 j = B2 5 w 39 j ∧ (S 0 r 11 j ≠ 0 → A2 3 0 17 j = 0)) ∧ (x ≤ 0 → x' = x ∧ A2 = A)
  | 0, n + 1, n2 + 1, i, x, A, B, hi, hc, _, _, hA, hB, hx, hf, hz => by
    have hn1 := h.1.2.2.1.1
    rw [zf_A_shareOut_226, hA.g0, if_pos (show S 0 r 6 0 ≤ i by omega), zf_W_eat_308, if_pos (show B 5 w 0 1 ≤ i by rw [hB 5 w 0 1 (by omega)]; omega), zlt_v]
    exact ⟨A, B, x, rfl, rfl, ⟨hx.1, Int.le_refl _⟩, hA, hB, fun _ _ _ _ => rfl, fun j p q => ⟨(hf j p q).2.2.1, (hf j p q).2.2.2.2⟩, fun _ => ⟨rfl, rfl⟩⟩
  | c + 1, n + 1, n2 + 1, i, x, A, B, hi, hc, h1, h2, hA, hB, hx, hf, hz => by
    have hn1 := h.1.2.2.1.1
    have hn := h.1.2.2.1.2.1
    have hx4 : 0 ≤ i ∧ i < 40 := by omega
    have hp : 0 ≤ i ∧ i < S 0 r 6 0 := by omega
    have hst := (h.mp i hi (by omega)).2.2.2.2.1
    have b := nds_in S r i
    obtain ⟨f1, f2, f3, f4, f5⟩ := hf i hi (by omega)
    obtain ⟨z1, z2⟩ := hz i (by omega) (by omega)
    have e0 : A 0 = S 0 := hA.g0
    have nC := e_needC h hA hp
    rw [e0] at nC
    -- nothing happens at i
    have same : (x ≤ 0 ∨ nds S r i ≤ A 3 0 17 i) → zf_W_eat_308 w (n2 + 1) x i B = zf_W_eat_370 w (zf_W_eat_308 w n2) x i B → ∃ (A2 B2 : Sg) (x' : Int), zf_A_shareOut_226 r (n + 1) x i A = zf_A_shareOut_279 r x' A2 ∧ zf_W_eat_308 w (n2 + 1) x i B = zf_W_eat_386 w 4096 0 (zu B2 5 w 25 0 x') ∧ (0 ≤ x' ∧ x' ≤ x) ∧ CE S A2 ∧ EF w T B2 ∧ (∀ g r' k, ¬ (g = 5 ∧ r' = w ∧ k = 39) → B2 g r' k = B g r' k) ∧ (∀ j, 0 ≤ j → j < S 0 r 6 0 → A2 3 0 17 j = B2 5 w 39 j ∧ (S 0 r 11 j ≠ 0 → A2 3 0 17 j = 0)) ∧ (x ≤ 0 → x' = x ∧ A2 = A) := by
      intro hor eM
      obtain ⟨A2, B2, x', k1, k2, k3, k4, k5, k6, k7, k8⟩ := w_rest h c n n2 (i + 1) x A B (by omega) (by omega) (by omega) (by omega) hA hB hx hf (fun j p q => hz j (by omega) q)
      refine ⟨A2, B2, x', ?_, ?_, k3, k4, k5, k6, k7, k8⟩
      · rw [zf_A_shareOut_226, e0, if_neg (show ¬ S 0 r 6 0 ≤ i by omega)]
        by_cases q : x ≤ 0
        · obtain ⟨y1, y2⟩ := k8 q
          rw [if_pos q, y1, y2]
        · rw [if_neg q, zck_b hx4, nC, zbd_s, if_pos (hor.resolve_left q)]
          unfold zf_A_shareOut_273
          rw [zlt_v, zw_in (x := i + 1) (by omega) (by omega)]
          exact k1
      · rw [eM]
        unfold zf_W_eat_370
        rw [zlt_v, zw_in (x := i + 1) (by omega) (by omega)]
        exact k2
    have eH : ∀ v, zf_W_eat_308 w (n2 + 1) x i B = v → zf_W_eat_308 w (n2 + 1) x i B = v := fun _ q => q
    by_cases s0 : S 0 r 11 i = 0
    · by_cases e16 : A 3 0 16 i = 0
      · by_cases hor : x ≤ 0 ∨ nds S r i ≤ A 3 0 17 i
        · refine same hor ?_
          rw [zf_W_eat_308, if_neg (show ¬ B 5 w 0 1 ≤ i by rw [hB 5 w 0 1 (by omega)]; omega), e_here h hB hp, zbd_s, if_pos s0, if_neg n10, zck_b hx4, ← f1, if_pos e16]
          by_cases q : x ≤ 0
          · rw [if_pos q]
          · rw [if_neg q, e_needM h hB hp, zbd_s, ← f3, if_pos (hor.resolve_left q)]
        · have q1 : ¬ x ≤ 0 := fun q => hor (Or.inl q)
          have q2 : ¬ nds S r i ≤ A 3 0 17 i := fun q => hor (Or.inr q)
          obtain ⟨A2, B2, x', k1, k2, k3, k4, k5, k6, k7, k8⟩ := w_rest h c n n2 (i + 1) (x - 1) (zu A 3 0 17 i (A 3 0 17 i + 1)) (zu B 5 w 39 i (A 3 0 17 i + 1)) (by omega) (by omega) (by omega) (by omega) (hA.trans (CE.put (by omega))) (hB.trans (EF.put (by omega))) (by omega) (fun j p q => by
            obtain ⟨y1, y2, y3, y4, y5⟩ := hf j p q
            rw [zu_ne (k' := 16) (by omega), zu_ne (k' := 40) (by omega)]
            by_cases e : j = i
            · rw [e, zu_at, zu_at]
              rw [e] at y1 y2
              exact ⟨y1, y2, rfl, by omega, fun z => absurd s0 z⟩
            · rw [zu_pl e, zu_pl e]
              exact ⟨y1, y2, y3, y4, y5⟩) (fun j p q => by
            have y := hz j (by omega) q
            rw [zu_ne (k' := 16) (by omega), zu_pl (by omega)]
            refine ⟨fun z => ?_, y.2⟩
            have := y.1 z
            omega)
          refine ⟨A2, B2, x', ?_, ?_, by omega, k4, k5, fun g r' k q => by rw [k6 g r' k q, zu_ne q], k7, fun q => absurd q q1⟩
          · rw [zf_A_shareOut_226, e0, if_neg (show ¬ S 0 r 6 0 ≤ i by omega), if_neg q1, zck_b hx4, nC, zbd_s, if_neg q2, zw_in (x := A 3 0 17 i + 1) (by omega) (by omega), zlt_v, zlt_v, zw_in (x := x + -1) (by omega) (by omega)]
            unfold zf_A_shareOut_273
            rw [zlt_v, zw_in (x := i + 1) (by omega) (by omega)]
            exact k1
          · rw [zf_W_eat_308, if_neg (show ¬ B 5 w 0 1 ≤ i by rw [hB 5 w 0 1 (by omega)]; omega), e_here h hB hp, zbd_s, if_pos s0, if_neg n10, zck_b hx4, ← f1, if_pos e16, if_neg q1, e_needM h hB hp, zbd_s, ← f3, if_neg q2, zw_in (x := A 3 0 17 i + 1) (by omega) (by omega), zlt_v, zlt_v, zw_in (x := x + -1) (by omega) (by omega)]
            unfold zf_W_eat_370
            rw [zlt_v, zw_in (x := i + 1) (by omega) (by omega)]
            exact k2
      · refine same (z1 (f2.resolve_left e16)) ?_
        rw [zf_W_eat_308, if_neg (show ¬ B 5 w 0 1 ≤ i by rw [hB 5 w 0 1 (by omega)]; omega), e_here h hB hp, zbd_s, if_pos s0, if_neg n10, zck_b hx4, ← f1, if_neg e16]
    · refine same (Or.inr ?_) ?_
      · rw [nds_out s0 hst, f5 s0]
        decide
      · rw [zf_W_eat_308, if_neg (show ¬ B 5 w 0 1 ≤ i by rw [hB 5 w 0 1 (by omega)]; omega), e_here h hB hp, zbd_s, if_neg s0, if_pos z00]
