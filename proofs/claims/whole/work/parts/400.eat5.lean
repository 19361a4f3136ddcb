/-! ===== a week: who goes hungry ===== -/
def CH (r : Int) (S A : Sg) : Prop := ∀ (g : Nat) (r' k : Int), ¬ (g = 3 ∧ r' = 0 ∧ (7 ≤ k ∧ k ≤ 9 ∨ k = 16 ∨ k = 17)) → ¬ (g = 0 ∧ r' = r ∧ k = 15) → A g r' k = S g r' k
theorem e_needH {S A T : Sg} {r w p : Int} (h : Rw S T r w) (hc : CH r S A) (hp : 0 ≤ p ∧ p < S 0 r 6 0) : zf_P_need r p (A 0 r 0 0) A = some (nds S r p, A) := by
  have hpp := h.1.2.2.1
  have hn := hpp.2.1
  have hwr := h.mc.2.2.2.2.2.2.1
  obtain ⟨c1, c2, c3, c4, c5, c6, c7, c8, c9, c10, -⟩ := hpp.2.2 p hp.1 hp.2
  have e : ∀ k, k ≠ 15 → A 0 r k = S 0 r k := fun k q => hc 0 r k (by omega) (by omega)
  rw [pf_P_need (by omega) (by rw [e 7 (by decide)]; omega) (by rw [e 0 (by decide)]; exact hwr)]
  unfold nds knd
  rw [e 11 (by decide), e 12 (by decide), e 7 (by decide), e 10 (by decide), e 0 (by decide), e 14 (by decide)]
theorem w_hungry {S T : Sg} {r w : Int} (h : Rw S T r w) : ∀ (c n n2 : Nat) (i : Int) (A B : Sg), 0 ≤ i → i + c = S 0 r 6 0 → c < n → c < n2 → CH r S A → EF w T B → (∀ j, 0 ≤ j → j < S 0 r 6 0 → A 3 0 17 j = B 5 w 39 j ∧ (S 0 r 11 j ≠ 0 → A 3 0 17 j = 0)) → (∀ j, 0 ≤ j → j < i → B 5 w 9 j = A 0 r 15 j ∧ (0 ≤ A 0 r 15 j ∧ A 0 r 15 j ≤ 1)) → ∃ A2 B2 : Sg, zf_A_feed_58 r n i A = some (1, A2) ∧ zf_W_eat_386 w n2 i B = some (0, B2) ∧ CH r S A2 ∧ EF w T B2 ∧ (∀ j, 0 ≤ j → j < S 0 r 6 0 → B2 5 w 9 j = A2 0 r 15 j ∧ (0 ≤ A2 0 r 15 j ∧ A2 0 r 15 j ≤ 1)) ∧ B2 5 w 34 = B 5 w 34
  | 0, n + 1, n2 + 1, i, A, B, hi, hc, _, _, hA, hB, hf, hz => by
    have hn1 := h.1.2.2.1.1
    rw [zf_A_feed_58, hA 0 r 6 (by omega) (by omega), if_pos (show S 0 r 6 0 ≤ i by omega), zf_W_eat_386, if_pos (show B 5 w 0 1 ≤ i by rw [hB 5 w 0 1 (by omega)]; omega)]
    exact ⟨A, B, rfl, rfl, hA, hB, fun j p q => hz j p (by omega), rfl⟩
  | c + 1, n + 1, n2 + 1, i, A, B, hi, hc, h1, h2, hA, hB, hf, hz => by
    have hn1 := h.1.2.2.1.1
    have hn := h.1.2.2.1.2.1
    have hx4 : 0 ≤ i ∧ i < 40 := by omega
    have hp : 0 ≤ i ∧ i < S 0 r 6 0 := by omega
    have hst := (h.mp i hi (by omega)).2.2.2.2.1
    obtain ⟨f1, f2⟩ := hf i hi (by omega)
    have go : ∀ v : Int, v = 0 ∨ v = 1 → ∃ A2 B2 : Sg, zf_A_feed_103 r (zf_A_feed_58 r n) i i v A = some (1, A2) ∧ zf_W_eat_431 w (zf_W_eat_386 w n2) i i v B = some (0, B2) ∧ CH r S A2 ∧ EF w T B2 ∧ (∀ j, 0 ≤ j → j < S 0 r 6 0 → B2 5 w 9 j = A2 0 r 15 j ∧ (0 ≤ A2 0 r 15 j ∧ A2 0 r 15 j ≤ 1)) ∧ B2 5 w 34 = B 5 w 34 := by
      intro v hv
      obtain ⟨A2, B2, k1, k2, k3, k4, k5, k6⟩ := w_hungry h c n n2 (i + 1) (zu A 0 r 15 i v) (zu B 5 w 9 i v) (by omega) (by omega) (by omega) (by omega) (fun g r' k q z => by rw [zu_ne z, hA g r' k q z]) (hB.trans (EF.put (by omega))) (fun j p q => by rw [zu_ne (by omega), zu_ne (by omega)]; exact hf j p q) (fun j p q => by
        by_cases e : j = i
        · rw [e, zu_at, zu_at]; exact ⟨rfl, by omega⟩
        · rw [zu_pl e, zu_pl e]; exact hz j p (by omega))
      refine ⟨A2, B2, ?_, ?_, k3, k4, k5, by rw [k6, zu_ne (by omega)]⟩
      · unfold zf_A_feed_103
        rw [zck_b hx4, zlt_v, zlt_v, zw_in (x := i + 1) (by omega) (by omega)]
        exact k1
      · unfold zf_W_eat_431
        rw [zck_b hx4, zlt_v, zlt_v, zw_in (x := i + 1) (by omega) (by omega)]
        exact k2
    rw [zf_A_feed_58, hA 0 r 6 (by omega) (by omega), if_neg (show ¬ S 0 r 6 0 ≤ i by omega), zck_b hx4, e_needH h hA hp, zbd_s, zf_W_eat_386, if_neg (show ¬ B 5 w 0 1 ≤ i by rw [hB 5 w 0 1 (by omega)]; omega), e_here h hB hp, zbd_s]
    unfold zf_W_eat_430
    by_cases s0 : S 0 r 11 i = 0
    · rw [if_pos s0, if_neg n10, zck_b hx4, e_needM h hB hp, zbd_s, ← f1]
      by_cases q : nds S r i ≤ A 3 0 17 i
      · rw [if_pos q, if_pos q]
        exact go 0 (Or.inl rfl)
      · rw [if_neg q, if_neg q]
        exact go 1 (Or.inr rfl)
    · rw [if_neg s0, if_pos z00, if_pos (show nds S r i ≤ A 3 0 17 i by rw [nds_out s0 hst, f2 s0]; decide)]
      exact go 0 (Or.inl rfl)
