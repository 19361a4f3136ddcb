/-! ===== a week: the reference's first round, then what is left is shared ===== -/
def MShr (w x k : Int) (U : Sg) : Option (Int × Sg) := if k = 0 then zf_W_eat_238 w x 0 U else (zck (¬ k = 0) <| zf_W_eat_238 w x (zdiv x k) U)
theorem m_served {S T : Sg} {r w k : Int} {f : Int → Int} (h : Rw S T r w) : ∀ (c n : Nat) (i x : Int) (U : Sg), 0 ≤ i → i + c = S 0 r 6 0 → c < n → (0 ≤ x ∧ x ≤ 9999) → EF w T U → (∀ j, i ≤ j → j < S 0 r 6 0 → U 5 w 40 j = f j ∧ U 5 w 39 j = 0) → ∃ U2, zf_W_eat_174 w n k x i U = MShr w (lfn f (nds S r) x i c) k U2 ∧ EF w T U2 ∧ (∀ j, j < i → U2 5 w 39 j = U 5 w 39 j) ∧ (∀ k', k' ≠ 39 → U2 5 w k' = U 5 w k') ∧ Gtn f (nds S r) x i c (U2 5 w 39)
  | 0, n + 1, i, x, U, hi, hc, _, hx, hU, hf => by
    have hn1 := h.1.2.2.1.1
    rw [zf_W_eat_174, if_pos (show U 5 w 0 1 ≤ i by rw [hU 5 w 0 1 (by omega)]; omega)]
    exact ⟨U, rfl, hU, fun _ _ => rfl, fun _ _ => rfl, trivial⟩
  | c + 1, n + 1, i, x, U, hi, hc, h1, hx, hU, hf => by
    have hn1 := h.1.2.2.1.1
    have hn := h.1.2.2.1.2.1
    have hx4 : 0 ≤ i ∧ i < 40 := by omega
    have b := nds_in S r i
    obtain ⟨f1, f2⟩ := hf i (by omega) (by omega)
    have eg : 0 ≤ gvn f (nds S r) x i ∧ gvn f (nds S r) x i ≤ x := by
      unfold gvn
      split <;> omega
    have go : ∀ U1 : Sg, EF w T U1 → U1 5 w 39 i = gvn f (nds S r) x i → (∀ j, j ≠ i → U1 5 w 39 j = U 5 w 39 j) → (∀ k', k' ≠ 39 → U1 5 w k' = U 5 w k') → ∃ U2, zf_W_eat_221 w (zf_W_eat_174 w n) k (x - gvn f (nds S r) x i) i U1 = MShr w (lfn f (nds S r) x i (c + 1)) k U2 ∧ EF w T U2 ∧ (∀ j, j < i → U2 5 w 39 j = U 5 w 39 j) ∧ (∀ k', k' ≠ 39 → U2 5 w k' = U 5 w k') ∧ Gtn f (nds S r) x i (c + 1) (U2 5 w 39) := by
      intro U1 e1 e2 e3 e4
      obtain ⟨U2, k1, k2, k3, k4, k5⟩ := m_served (k := k) h c n (i + 1) (x - gvn f (nds S r) x i) U1 (by omega) (by omega) (by omega) (by omega) e1 (fun j p q => by
        rw [e4 40 (by decide), e3 j (by omega)]
        exact hf j (by omega) q)
      refine ⟨U2, ?_, k2, fun j q => (k3 j (by omega)).trans (e3 j (by omega)), fun k' q => (k4 k' q).trans (e4 k' q), ?_, k5⟩
      · unfold zf_W_eat_221
        rw [zlt_v, zw_in (x := i + 1) (by omega) (by omega)]
        exact k1
      · rw [k3 i (by omega), e2]
    rw [zf_W_eat_174, if_neg (show ¬ U 5 w 0 1 ≤ i by rw [hU 5 w 0 1 (by omega)]; omega), zck_b hx4, f1]
    by_cases e : f i = 1
    · have g1 : gvn f (nds S r) x i = min x (nds S r i) := if_pos e
      rw [if_pos e, e_needM h hU ⟨hi, by omega⟩, zbd_s, zlt_v, zu_at, zw_in (x := x - min x (nds S r i)) (by omega) (by omega), zlt_v, ← g1]
      exact go _ (hU.trans (EF.put (by omega))) (by rw [zu_at]) (fun j q => zu_pl q) (fun k' q => zu_ne (by omega))
    · have g1 : gvn f (nds S r) x i = 0 := if_neg e
      have := go U hU (by rw [g1]; exact f2) (fun _ _ => rfl) (fun _ _ => rfl)
      rw [if_neg e]
      rw [g1, Int.sub_zero] at this
      exact this
/-- got and first cells are alike -/
def Gal (S : Sg) (r w : Int) (A B : Sg) : Prop := ∀ j, 0 ≤ j → j < S 0 r 6 0 → A 3 0 17 j = B 5 w 39 j ∧ A 3 0 16 j = B 5 w 40 j ∧ (A 3 0 16 j = 0 ∨ A 3 0 16 j = 1) ∧ (S 0 r 11 j ≠ 0 → A 3 0 16 j = 0) ∧ (0 ≤ A 3 0 17 j ∧ A 3 0 17 j ≤ 5)
/-- each of the others gets the like share -/
theorem w_share {S T : Sg} {r w v : Int} (h : Rw S T r w) (hv : 0 ≤ v ∧ v ≤ 9999) : ∀ (c n n2 : Nat) (i x : Int) (A B : Sg), 0 ≤ i → i + c = S 0 r 6 0 → c < n → c < n2 → CE S A → EF w T B → x ≤ 9999 → v * sF (oth S r (A 3 0 16)) i c ≤ x → (∀ j, 0 ≤ j → j < S 0 r 6 0 → A 3 0 16 j = B 5 w 40 j ∧ (A 3 0 16 j = 0 ∨ A 3 0 16 j = 1) ∧ (S 0 r 11 j ≠ 0 → A 3 0 16 j = 0)) → (∀ j, 0 ≤ j → j < S 0 r 6 0 → A 3 0 17 j = B 5 w 39 j ∧ (0 ≤ A 3 0 17 j ∧ A 3 0 17 j ≤ 5)) → (∀ j, i ≤ j → j < S 0 r 6 0 → A 3 0 16 j = 0 → A 3 0 17 j = 0) → ∃ (A2 B2 : Sg) (x' : Int), zf_A_shareOut_166 r n x v i A = zf_A_shareOut_226 r 4096 x' 0 A2 ∧ zf_W_eat_243 w n2 x v i B = zf_W_eat_308 w 4096 x' 0 B2 ∧ (0 ≤ x' ∧ x' ≤ x) ∧ CE S A2 ∧ EF w T B2 ∧ (∀ g r' k, ¬ (g = 3 ∧ r' = 0 ∧ k = 17) → A2 g r' k = A g r' k) ∧ (∀ g r' k, ¬ (g = 5 ∧ r' = w ∧ k = 39) → B2 g r' k = B g r' k) ∧ (∀ j, 0 ≤ j → j < S 0 r 6 0 → A2 3 0 17 j = B2 5 w 39 j ∧ (0 ≤ A2 3 0 17 j ∧ A2 3 0 17 j ≤ 5)) ∧ (∀ j, A 3 0 16 j = 1 → A2 3 0 17 j = A 3 0 17 j) ∧ (∀ j, 0 ≤ j → j < S 0 r 6 0 → S 0 r 11 j ≠ 0 → A 3 0 17 j = 0 → A2 3 0 17 j = 0)
  | 0, n + 1, n2 + 1, i, x, A, B, hi, hc, _, _, hA, hB, hx9, hx, hf, hg, hz => by
    have hn1 := h.1.2.2.1.1
    have hx0 : 0 ≤ x := by
      have e : sF (oth S r (A 3 0 16)) i 0 = 0 := rfl
      rw [e, Int.mul_zero] at hx
      exact hx
    rw [zf_A_shareOut_166, hA.g0, if_pos (show S 0 r 6 0 ≤ i by omega), zf_W_eat_243, if_pos (show B 5 w 0 1 ≤ i by rw [hB 5 w 0 1 (by omega)]; omega)]
    exact ⟨A, B, x, rfl, rfl, ⟨hx0, Int.le_refl _⟩, hA, hB, fun _ _ _ _ => rfl, fun _ _ _ _ => rfl, hg, fun _ _ => rfl, fun _ _ _ _ q => q⟩
  | c + 1, n + 1, n2 + 1, i, x, A, B, hi, hc, h1, h2, hA, hB, hx9, hx, hf, hg, hz => by
    have hn1 := h.1.2.2.1.1
    have hn := h.1.2.2.1.2.1
    have hx4 : 0 ≤ i ∧ i < 40 := by omega
    have hp : 0 ≤ i ∧ i < S 0 r 6 0 := by omega
    have hst := (h.mp i hi (by omega)).2.2.2.2.1
    have b := nds_in S r i
    have bo := oth_in S r (A 3 0 16) i
    have bs := sF_le (f := oth S r (A 3 0 16)) (m := 1) c (i + 1) (fun j _ _ => oth_in S r _ j)
    have hm0 : 0 ≤ v * sF (oth S r (A 3 0 16)) (i + 1) c := Int.mul_nonneg hv.1 bs.1
    have hm1 : 0 ≤ v * oth S r (A 3 0 16) i := Int.mul_nonneg hv.1 bo.1
    have hxs : v * oth S r (A 3 0 16) i + v * sF (oth S r (A 3 0 16)) (i + 1) c ≤ x := by
      rw [← Int.mul_add]
      exact hx
    obtain ⟨f1, f2, f3⟩ := hf i hi (by omega)
    obtain ⟨g1, g2⟩ := hg i hi (by omega)
    have go : ∀ (A1 B1 : Sg) (y : Int), (0 ≤ y ∧ y ≤ v * oth S r (A 3 0 16) i) → CE S A1 → EF w T B1 → (∀ g r' k, ¬ (g = 3 ∧ r' = 0 ∧ k = 17) → A1 g r' k = A g r' k) → (∀ g r' k, ¬ (g = 5 ∧ r' = w ∧ k = 39) → B1 g r' k = B g r' k) → (∀ j, j ≠ i → A1 3 0 17 j = A 3 0 17 j ∧ B1 5 w 39 j = B 5 w 39 j) → A1 3 0 17 i = B1 5 w 39 i → (0 ≤ A1 3 0 17 i ∧ A1 3 0 17 i ≤ 5) → (A 3 0 16 i = 1 → A1 3 0 17 i = A 3 0 17 i) → (S 0 r 11 i ≠ 0 → A 3 0 17 i = 0 → A1 3 0 17 i = 0) → ∃ (A2 B2 : Sg) (x' : Int), zf_A_shareOut_217 r (zf_A_shareOut_166 r n) (x - y) v i A1 = zf_A_shareOut_226 r 4096 x' 0 A2 ∧ zf_W_eat_299 w (zf_W_eat_243 w n2) (x - y) v i B1 = zf_W_eat_308 w 4096 x' 0 B2 ∧ (0 ≤ x' ∧ x' ≤ x) ∧ CE S A2 ∧ EF w T B2 ∧ (∀ g r' k, ¬ (g = 3 ∧ r' = 0 ∧ k = 17) → A2 g r' k = A g r' k) ∧ (∀ g r' k, ¬ (g = 5 ∧ r' = w ∧ k = 39) → B2 g r' k = B g r' k) ∧ (∀ j, 0 ≤ j → j < S 0 r 6 0 → A2 3 0 17 j = B2 5 w 39 j ∧ (0 ≤ A2 3 0 17 j ∧ A2 3 0 17 j ≤ 5)) ∧ (∀ j, A 3 0 16 j = 1 → A2 3 0 17 j = A 3 0 17 j) ∧ (∀ j, 0 ≤ j → j < S 0 r 6 0 → S 0 r 11 j ≠ 0 → A 3 0 17 j = 0 → A2 3 0 17 j = 0) := by
      intro A1 B1 y hy cA cB fA fB ne e17 r17 one out
      have a16 : A1 3 0 16 = A 3 0 16 := fA 3 0 16 (by omega)
      have b40 : B1 5 w 40 = B 5 w 40 := fB 5 w 40 (by omega)
      obtain ⟨A2, B2, x', k1, k2, k3, k4, k5, k6, k7, k8, k9, k10⟩ := w_share h hv c n n2 (i + 1) (x - y) A1 B1 (by omega) (by omega) (by omega) (by omega) cA cB (by omega) (by rw [a16]; omega) (fun j p q => by rw [a16, b40]; exact hf j p q) (fun j p q => by
        by_cases e : j = i
        · rw [e]; exact ⟨e17, r17⟩
        · rw [(ne j e).1, (ne j e).2]; exact hg j p q) (fun j p q z => by
        rw [(ne j (by omega)).1]
        rw [a16] at z
        exact hz j (by omega) q z)
      refine ⟨A2, B2, x', ?_, ?_, by omega, k4, k5, fun g r' k q => (k6 g r' k q).trans (fA g r' k q), fun g r' k q => (k7 g r' k q).trans (fB g r' k q), k8, fun j q => ?_, fun j p q z z2 => ?_⟩
      · unfold zf_A_shareOut_217
        rw [zlt_v, zw_in (x := i + 1) (by omega) (by omega)]
        exact k1
      · unfold zf_W_eat_299
        rw [zlt_v, zw_in (x := i + 1) (by omega) (by omega)]
        exact k2
      · rw [k9 j (by rw [a16]; exact q)]
        by_cases e : j = i
        · rw [e] at q ⊢; exact one q
        · exact (ne j e).1
      · refine k10 j p q z ?_
        by_cases e : j = i
        · rw [e] at z z2 ⊢; exact out z z2
        · rw [(ne j e).1]; exact z2
    have e0 : A 0 = S 0 := hA.g0
    rw [zf_A_shareOut_166, e0, if_neg (show ¬ S 0 r 6 0 ≤ i by omega), zck_b hx4, zf_W_eat_243, if_neg (show ¬ B 5 w 0 1 ≤ i by rw [hB 5 w 0 1 (by omega)]; omega), e_here h hB hp, zbd_s]
    have nC := e_needC h hA hp
    rw [e0] at nC
    by_cases e16 : A 3 0 16 i = 0
    · rw [if_pos e16, nC, zbd_s, zlt_v, zu_at]
      by_cases s0 : S 0 r 11 i = 0
      · have ho : oth S r (A 3 0 16) i = 1 := if_pos ⟨s0, e16⟩
        rw [ho, Int.mul_one] at go hxs
        rw [if_pos s0, if_neg n10, zck_b hx4, ← f1, if_pos e16, e_needM h hB hp, zbd_s, zlt_v, zlt_v, zu_at, zw_in (x := x - min v (nds S r i)) (by omega) (by omega), zlt_v]
        refine go _ _ (min v (nds S r i)) (by omega) (hA.trans (CE.put (by omega))) (hB.trans (EF.put (by omega))) (fun g r' k q => zu_ne q) (fun g r' k q => zu_ne q) (fun j q => ⟨zu_pl q, zu_pl q⟩) (by rw [zu_at, zu_at]) (by rw [zu_at]; omega) (fun q => by omega) (fun q => absurd s0 q)
      · have ho : oth S r (A 3 0 16) i = 0 := if_neg (fun q => s0 q.1)
        have hz0 := hz i (by omega) (by omega) e16
        have n0 := nds_out s0 hst
        rw [if_neg s0, if_pos z00, n0, show min v 0 = 0 by omega, Int.sub_zero, zw_in (x := x) (by omega) (by omega), zlt_v]
        have := go (zu A 3 0 17 i 0) B 0 (by rw [ho, Int.mul_zero]; omega) (hA.trans (CE.put (by omega))) hB (fun g r' k q => zu_ne q) (fun _ _ _ _ => rfl) (fun j q => ⟨zu_pl q, rfl⟩) (by rw [zu_at, ← g1, hz0]) (by rw [zu_at]; decide) (fun q => by omega) (fun _ _ => by rw [zu_at])
        rw [Int.sub_zero] at this
        exact this
    · have s0 : S 0 r 11 i = 0 := by
        rcases Int.lt_trichotomy (S 0 r 11 i) 0 with q | q | q
        · exact absurd (f3 (by omega)) e16
        · exact q
        · exact absurd (f3 (by omega)) e16
      have ho : oth S r (A 3 0 16) i = 0 := if_neg (fun q => e16 q.2)
      rw [if_neg e16, if_pos s0, if_neg n10, zck_b hx4, ← f1, if_neg e16]
      have := go A B 0 (by rw [ho, Int.mul_zero]; omega) hA hB (fun _ _ _ _ => rfl) (fun _ _ _ _ => rfl) (fun _ _ => ⟨rfl, rfl⟩) g1 g2 (fun _ => rfl) (fun _ q => q)
      rw [Int.sub_zero] at this
      exact this
