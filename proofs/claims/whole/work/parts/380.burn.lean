/-! ===== a week: goods are used ===== -/
theorem w_use {r w x2 : Int} (qc : Int → Int → Sg → Option (Int × Sg)) (qm : Int → Sg → Option (Int × Sg)) {S T : Sg} (h : Rw S T r w) (hH : Hds S r) : ∀ (c n n2 : Nat) (j x : Int), 0 ≤ j → j + c = 12 → (0 ≤ x ∧ x ≤ 99 + j) → c < n → c < n2 → ∃ x' : Int, (0 ≤ x' ∧ x' ≤ 111) ∧ zf_A_burn_23 r qc n x2 1 x j S = zf_A_burn_61 r qc x2 1 x' S ∧ zf_W_useGoods_16 w qm n2 1 x j T = zf_W_useGoods_49 w qm 1 x' T
  | 0, n + 1, n2 + 1, j, x, hj, hc, hx, _, _ => by
    rw [zf_A_burn_23, if_pos (show (12 : Int) ≤ j by omega), zf_W_useGoods_16, if_pos rfl, if_pos (show (12 : Int) ≤ j by omega)]
    exact ⟨x, by omega, rfl, rfl⟩
  | c + 1, n + 1, n2 + 1, j, x, hj, hc, hx, h1, h2 => by
    have hj12 : 0 ≤ j ∧ j < 12 := by omega
    have hpp := h.1.2.2.1
    have hn := hpp.2.1
    have hn1 := hpp.1
    have go : ∀ y : Int, y = 0 ∨ y = 1 → ∃ x' : Int, (0 ≤ x' ∧ x' ≤ 111) ∧ zf_A_burn_52 r qc (zf_A_burn_23 r qc n) x2 1 j x y S = zf_A_burn_61 r qc x2 1 x' S ∧ zf_W_useGoods_41 w qm (zf_W_useGoods_16 w qm n2) 1 j x y T = zf_W_useGoods_49 w qm 1 x' T := by
      intro y hy
      obtain ⟨x', k1, k2, k3⟩ := w_use qc qm h hH c n n2 (j + 1) (x + y) (by omega) (by omega) (by omega) (by omega) (by omega)
      refine ⟨x', k1, ?_, ?_⟩
      · unfold zf_A_burn_52
        rw [zlt_v, zlt_v, zw_in (x := x + y) (by omega) (by omega), zw_in (x := j + 1) (by omega) (by omega)]
        exact k2
      · unfold zf_W_useGoods_41
        rw [zlt_v, zlt_v, zw_in (x := x + y) (by omega) (by omega), zw_in (x := j + 1) (by omega) (by omega)]
        exact k3
    rw [zf_A_burn_23, if_neg (show ¬ (12 : Int) ≤ j by omega), if_pos rfl, zck_b hj12, zf_W_useGoods_16, if_pos rfl, if_neg (show ¬ (12 : Int) ≤ j by omega), pf_W_heads (by omega), zbd_s, hd_like2 hpp, hH j hj12.1 hj12.2]
    by_cases q : sF (hdC S r j) 0 (S 0 r 6 0).toNat ≤ 0
    · rw [if_pos q, if_pos q]
      exact go 0 (Or.inl rfl)
    · rw [if_neg q, if_neg q]
      exact go 1 (Or.inr rfl)
/-- one good -/
theorem w_burn1 {r w x g : Int} (n n2 : Nat) {S T : Sg} (hg : 1 ≤ g ∧ g < 4) (h : Rw S T r w) (hH : Hds S r) : ∃ (L : Int) (S2 T2 : Sg), (L = 0 ∨ L = 1) ∧ zf_A_burn_4 r (n + 1) x g S = zf_A_burn_4 r n (if L = 1 then zor x (zshl 1 g) else x) (g + 1) S2 ∧ zf_W_useGoods_2 w (n2 + 1) g T = zf_W_useGoods_2 w n2 (g + 1) T2 ∧ Rw S2 T2 r w ∧ AG r S S2 ∧ BG w T T2 ∧ S2 3 = S 3 ∧ S2 0 r 11 = S 0 r 11 ∧ T2 5 w 34 g = L ∧ (∀ j, j ≠ g → T2 5 w 34 j = T 5 w 34 j) := by
  have hg4 : 0 ≤ g ∧ g < 4 := by omega
  obtain ⟨g1, g2, g3, g4, g5, g6, g7⟩ := h.1.2.2.2.2.1.1 g (by omega) (by omega)
  have fin : ∀ a : Int, 0 ≤ a ∧ a ≤ 111 → ∃ (L : Int) (S2 T2 : Sg), (L = 0 ∨ L = 1) ∧ zf_A_burn_61 r (zf_A_burn_4 r n) x g a S = zf_A_burn_4 r n (if L = 1 then zor x (zshl 1 g) else x) (g + 1) S2 ∧ zf_W_useGoods_49 w (zf_W_useGoods_2 w n2) g a T = zf_W_useGoods_2 w n2 (g + 1) T2 ∧ Rw S2 T2 r w ∧ AG r S S2 ∧ BG w T T2 ∧ S2 3 = S 3 ∧ S2 0 r 11 = S 0 r 11 ∧ T2 5 w 34 g = L ∧ (∀ j, j ≠ g → T2 5 w 34 j = T 5 w 34 j) := by
    intro a ha
    have hR : ∀ L : Int, Rw (zu S 0 r 32 g (max 0 (S 0 r 32 g - a))) (zu (zu T 5 w 34 g L) 5 w 25 g (max 0 (S 0 r 32 g - a))) r w := fun L => Rw.stock (h.scr (T2 := zu T 5 w 34 g L) (fun _ _ _ _ => rfl) (fun g' r' k j q => if_neg (by omega))) (by omega)
    have eT : ∀ L : Int, zf_W_useGoods_69 w (zf_W_useGoods_2 w n2) g a g L T = zf_W_useGoods_2 w n2 (g + 1) (zu (zu T 5 w 34 g L) 5 w 25 g (max 0 (S 0 r 32 g - a))) := by
      intro L
      unfold zf_W_useGoods_69
      rw [zck_b hg4, zlt_v, zck_b hg4, zlt_v, zlt_v, show zu T 5 w 34 g L 5 w 25 g = S 0 r 32 g by rw [zu_ne (by omega)]; exact g1, zw_in (x := S 0 r 32 g - a) (by omega) (by omega), zw_in (x := g + 1) (by omega) (by omega)]
    have res : ∀ L : Int, (L = 0 ∨ L = 1) → zf_A_burn_61 r (zf_A_burn_4 r n) x g a S = zf_A_burn_4 r n (if L = 1 then zor x (zshl 1 g) else x) (g + 1) (zu S 0 r 32 g (max 0 (S 0 r 32 g - a))) → zf_W_useGoods_49 w (zf_W_useGoods_2 w n2) g a T = zf_W_useGoods_69 w (zf_W_useGoods_2 w n2) g a g L T → ∃ (L : Int) (S2 T2 : Sg), (L = 0 ∨ L = 1) ∧ zf_A_burn_61 r (zf_A_burn_4 r n) x g a S = zf_A_burn_4 r n (if L = 1 then zor x (zshl 1 g) else x) (g + 1) S2 ∧ zf_W_useGoods_49 w (zf_W_useGoods_2 w n2) g a T = zf_W_useGoods_2 w n2 (g + 1) T2 ∧ Rw S2 T2 r w ∧ AG r S S2 ∧ BG w T T2 ∧ S2 3 = S 3 ∧ S2 0 r 11 = S 0 r 11 ∧ T2 5 w 34 g = L ∧ (∀ j, j ≠ g → T2 5 w 34 j = T 5 w 34 j) := by
      intro L hL e1 e2
      refine ⟨L, _, _, hL, e1, e2.trans (eT L), hR L, AG.put (by unfold AK; omega) (by omega), (BG.put (by unfold BK; omega)).trans (BG.put (by unfold BK; omega)), ?_, ?_, ?_, fun j q => ?_⟩
      · funext r' k; rw [zu_ne (by omega)]
      · rw [zu_ne (by omega)]
      · rw [zu_ne (by omega), zu_at]
      · rw [zu_ne (by omega), zu_pl q]
    by_cases q : a ≤ S 0 r 32 g
    · refine res 0 (Or.inl rfl) ?_ ?_
      · unfold zf_A_burn_61 zf_T_spend zf_T_spend_15 zf_A_burn_80
        rw [zck_b hg4, if_neg (show ¬ S 0 r 32 g < a by omega), zck_b hg4, zlt_v, zck_b (by decide), zbd_s, if_neg n10, zlt_v, zw_in (x := S 0 r 32 g - a) (by omega) (by omega), zw_in (x := g + 1) (by omega) (by omega), if_neg (show ¬ (0 : Int) = 1 by decide)]
      · unfold zf_W_useGoods_49
        rw [zck_b hg4, g1, if_pos q]
    · refine res 1 (Or.inr rfl) ?_ ?_
      · unfold zf_A_burn_61 zf_T_spend zf_T_spend_15 zf_A_burn_80
        rw [zck_b hg4, if_pos (show S 0 r 32 g < a by omega), zck_b hg4, zlt_v, zck_b (by decide), zbd_s, if_pos rfl, zlt_v, zlt_v, zw_in (x := S 0 r 32 g - a) (by omega) (by omega), zw_in (x := g + 1) (by omega) (by omega), if_pos rfl]
      · unfold zf_W_useGoods_49
        rw [zck_b hg4, g1, if_neg q]
  rw [zf_A_burn_4, if_neg (show ¬ (4 : Int) ≤ g by omega), zck_b hg4, zlt_v, zf_W_useGoods_2, if_neg (show ¬ (4 : Int) ≤ g by omega), zck_b hg4, zlt_v, g3]
  by_cases e : g = 1
  · subst e
    obtain ⟨x', k1, k2, k3⟩ := w_use (x2 := x) (zf_A_burn_4 r n) (zf_W_useGoods_2 w n2) h hH 12 4096 4096 0 (S 0 r 34 1) (by decide) (by decide) (by omega) (by decide) (by decide)
    rw [k2, k3]
    exact fin x' k1
  · rw [zf_A_burn_23, if_neg (by decide), if_neg e, zf_W_useGoods_16, if_neg e]
    exact fin _ (by omega)
theorem Hds.ag {S S2 : Sg} {r : Int} (h : Hds S r) (ha : AG r S S2) (h3 : S2 3 = S 3) (h11 : S2 0 r 11 = S 0 r 11) : Hds S2 r := h.to (by rw [h3]) h11 (ha.1 0 r 8 (by unfold AK; omega)) (ha.1 0 r 6 (by unfold AK; omega))
theorem tw_burn {S T : Sg} {r w : Int} (h : Rw S T r w) (hH : Hds S r) : ∃ (L1 L2 L3 : Int) (S2 T2 : Sg), (L1 = 0 ∨ L1 = 1) ∧ (L2 = 0 ∨ L2 = 1) ∧ (L3 = 0 ∨ L3 = 1) ∧ zf_A_burn r S = some (2 * L1 + 4 * L2 + 8 * L3, S2) ∧ zf_W_useGoods w T = some (0, T2) ∧ Rw S2 T2 r w ∧ AG r S S2 ∧ BG w T T2 ∧ S2 3 = S 3 ∧ S2 0 r 11 = S 0 r 11 ∧ T2 5 w 34 0 = T 5 w 34 0 ∧ T2 5 w 34 1 = L1 ∧ T2 5 w 34 2 = L2 ∧ T2 5 w 34 3 = L3 := by
  obtain ⟨L1, A, A', hl1, a1, a2, a3, a4, a5, a6, a7, a8, a9⟩ := w_burn1 (x := 0) (g := 1) 4095 4095 (by decide) h hH
  obtain ⟨L2, B, B', hl2, b1, b2, b3, b4, b5, b6, b7, b8, b9⟩ := w_burn1 (x := if L1 = 1 then zor 0 (zshl 1 1) else 0) (g := 2) 4094 4094 (by decide) a3 (hH.ag a4 a6 a7)
  obtain ⟨L3, C, C', hl3, c1, c2, c3, c4, c5, c6, c7, c8, c9⟩ := w_burn1 (x := if L2 = 1 then zor (if L1 = 1 then zor 0 (zshl 1 1) else 0) (zshl 1 2) else (if L1 = 1 then zor 0 (zshl 1 1) else 0)) (g := 3) 4093 4093 (by decide) b3 ((hH.ag a4 a6 a7).ag b4 b6 b7)
  refine ⟨L1, L2, L3, C, C', hl1, hl2, hl3, ?_, ?_, c3, (a4.trans b4).trans c4, (a5.trans b5).trans c5, c6.trans (b6.trans a6), c7.trans (b7.trans a7), ?_, ?_, ?_, c8⟩
  · unfold zf_A_burn
    rw [show zf_A_burn_4 r 4096 0 1 S = zf_A_burn_4 r (4095 + 1) 0 1 S from rfl, a1, show (1 : Int) + 1 = 2 from rfl, show zf_A_burn_4 r 4095 = zf_A_burn_4 r (4094 + 1) from rfl, b1, show (2 : Int) + 1 = 3 from rfl, show zf_A_burn_4 r 4094 = zf_A_burn_4 r (4093 + 1) from rfl, c1, show (3 : Int) + 1 = 4 from rfl, show zf_A_burn_4 r 4093 = zf_A_burn_4 r (4092 + 1) from rfl, zf_A_burn_4, if_pos (by decide)]
    rcases hl1 with e1 | e1 <;> rcases hl2 with e2 | e2 <;> rcases hl3 with e3 | e3 <;> subst e1 e2 e3 <;> rfl
  · unfold zf_W_useGoods
    rw [show zf_W_useGoods_2 w 4096 1 T = zf_W_useGoods_2 w (4095 + 1) 1 T from rfl, a2, show (1 : Int) + 1 = 2 from rfl, show zf_W_useGoods_2 w 4095 = zf_W_useGoods_2 w (4094 + 1) from rfl, b2, show (2 : Int) + 1 = 3 from rfl, show zf_W_useGoods_2 w 4094 = zf_W_useGoods_2 w (4093 + 1) from rfl, c2, show (3 : Int) + 1 = 4 from rfl, show zf_W_useGoods_2 w 4093 = zf_W_useGoods_2 w (4092 + 1) from rfl, zf_W_useGoods_2, if_pos (by decide)]
  · rw [c9 0 (by decide), b9 0 (by decide), a9 0 (by decide)]
  · rw [c9 1 (by decide), b9 1 (by decide), a8]
  · rw [c9 2 (by decide), b8]
