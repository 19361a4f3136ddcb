/-! ===== a week: the ship lands ===== -/
theorem Rw.order {S T : Sg} {r w i v : Int} (h : Rw S T r w) (hv : 0 ≤ v ∧ v ≤ 500) : Rw (zu S 0 r 36 i v) (zu T 5 w 29 i v) r w := by
  refine h.step (AG.put (by unfold AK; omega) (by omega)) (BG.put (by unfold BK; omega)) (h.mc.to (zu_ne (by omega)) (zu_ne (by omega))) (h.mh.to (zu_ne (by omega)) (zu_ne (by omega)) (zu_ne (by omega)) (zu_ne (by omega)) (zu_ne (by omega)) (zu_ne (by omega))) (h.mp.to (zu_ne (by omega)) (zu_ne (by omega)) (zu_ne (by omega)) (zu_ne (by omega)) (zu_ne (by omega)) (zu_ne (by omega)) (zu_ne (by omega)) (zu_ne (by omega))) ⟨fun j p q => ?_, fun j p q => ?_⟩
  · have c := h.ms.1 j p q
    rw [zu_ne (by omega), zu_ne (by omega)]
    exact c
  · have c := h.ms.2 j p q
    by_cases e : j = i
    · subst e
      exact ⟨by rw [zu_at, zu_at], by rw [zu_at]; exact hv⟩
    · exact ⟨by rw [zu_pl e, zu_pl e]; exact c.1, by rw [zu_pl e]; exact c.2⟩
theorem Rw.lands {S T : Sg} {r w : Int} (h : Rw S T r w) : Rw (zu S 0 r 0 6 (S 0 r 0 0)) (zu T 5 w 0 41 (S 0 r 0 0)) r w := by
  obtain ⟨d1, d2, d3, d4, d5, d6, d7, d8, d9, d10⟩ := h.mc
  refine h.step (AG.put (by unfold AK; omega) (by omega)) (BG.put (by unfold BK; omega)) ⟨?_, ?_, ?_, ?_, ?_, ?_, ?_, ?_, ?_, ?_⟩ (h.mh.to (zu_ne (by omega)) (zu_ne (by omega)) (zu_ne (by omega)) (zu_ne (by omega)) (zu_ne (by omega)) (zu_ne (by omega))) (h.mp.to (zu_ne (by omega)) (zu_ne (by omega)) (zu_ne (by omega)) (zu_ne (by omega)) (zu_ne (by omega)) (zu_ne (by omega)) (zu_ne (by omega)) (zu_ne (by omega))) (h.ms.to (zu_ne (by omega)) (zu_ne (by omega)) (zu_ne (by omega)) (zu_ne (by omega)))
  · rw [zu_pl (by decide), zu_pl (by decide)]; exact d1
  · rw [zu_pl (by decide), zu_pl (by decide)]; exact d2
  · rw [zu_pl (by decide), zu_pl (by decide)]; exact d3
  · rw [zu_pl (by decide), zu_pl (by decide)]; exact d4
  · rw [zu_pl (by decide), zu_pl (by decide)]; exact d5
  · rw [zu_at, zu_at]
    unfold pv
    rw [if_neg (by omega)]
  · rw [zu_pl (by decide)]; exact d7
  · rw [zu_pl (by decide)]; exact d8
  · rw [zu_pl (by decide)]; exact d9
  · rw [zu_at, zu_pl (by decide)]; omega
/-- of one rank, order after order -/
theorem w_load13 {r w k NO : Int} (qc qm : Int → Int → Sg → Option (Int × Sg)) (hk : 0 ≤ k ∧ k ≤ 9) (h30 : NO ≤ 30) : ∀ (c n n2 : Nat) (i x : Int) (S T : Sg), 0 ≤ i → i + c = NO → S 0 r 31 3 = NO → (0 ≤ x ∧ x ≤ 500) → c < n → c < n2 → Rw S T r w → ∃ (x' : Int) (S2 T2 : Sg), zf_T_load_13 r qc n x k i S = qc x' (k + 1) S2 ∧ zf_W_ship_68 w qm n2 x k i T = qm x' (k + 1) T2 ∧ (0 ≤ x' ∧ x' ≤ 500) ∧ Rw S2 T2 r w ∧ AG r S S2 ∧ BG w T T2 ∧ S2 3 = S 3 ∧ S2 0 r 11 = S 0 r 11
  | 0, n + 1, n2 + 1, i, x, S, T, hi, hc, hO, hx, _, _, h => by
    have ho := h.1.2.2.2.2.1.2.1
    rw [zf_T_load_13, if_pos (show S 0 r 31 3 ≤ i by omega), zf_W_ship_68, if_pos (show T 5 w 0 33 ≤ i by omega), zlt_v, zlt_v, zw_in (x := k + 1) (by omega) (by omega)]
    exact ⟨x, S, T, rfl, rfl, hx, h, AG.refl r S, BG.refl w T, rfl, rfl⟩
  | c + 1, n + 1, n2 + 1, i, x, S, T, hi, hc, hO, hx, h1, h2, h => by
    have ho := h.1.2.2.2.2.1.2.1
    have hi30 : 0 ≤ i ∧ i < 30 := by omega
    obtain ⟨o1, o2, o3, o4⟩ := h.1.2.2.2.2.1.2.2.2 i hi (by omega)
    obtain ⟨g1, g2, g3, g4, g5, g6, g7⟩ := h.1.2.2.2.2.1.1 _ o3.1 o3.2
    have go : ∀ (x' : Int) (S' T' : Sg), Rw S' T' r w → (0 ≤ x' ∧ x' ≤ 500) → AG r S S' → BG w T T' → S' 3 = S 3 → S' 0 r 11 = S 0 r 11 → ∃ (x2 : Int) (S2 T2 : Sg), zf_T_load_81 r qc (zf_T_load_13 r qc n) x' k i S' = qc x2 (k + 1) S2 ∧ zf_W_ship_131 w qm (zf_W_ship_68 w qm n2) x' k i T' = qm x2 (k + 1) T2 ∧ (0 ≤ x2 ∧ x2 ≤ 500) ∧ Rw S2 T2 r w ∧ AG r S S2 ∧ BG w T T2 ∧ S2 3 = S 3 ∧ S2 0 r 11 = S 0 r 11 := by
      intro x' S' T' h' hx' a b a3 a11
      have a31 : S' 0 r 31 = S 0 r 31 := a.1 0 r 31 (by unfold AK; omega)
      obtain ⟨x2, S2, T2, k1, k2, k3, k4, k5, k6, k7, k8⟩ := w_load13 qc qm hk h30 c n n2 (i + 1) x' S' T' (by omega) (by omega) (by rw [a31]; exact hO) hx' (by omega) (by omega) h'
      refine ⟨x2, S2, T2, ?_, ?_, k3, k4, a.trans k5, b.trans k6, k7.trans a3, k8.trans a11⟩
      · unfold zf_T_load_81
        rw [zlt_v, zw_in (by omega) (by omega)]
        exact k1
      · unfold zf_W_ship_131
        rw [zlt_v, zw_in (by omega) (by omega)]
        exact k2
    rw [zf_T_load_13, if_neg (show ¬ S 0 r 31 3 ≤ i by omega), zck_b hi30, zck_b o3, zf_W_ship_68, if_neg (show ¬ T 5 w 0 33 ≤ i by omega), zck_b hi30, o1, zck_b o3, g2, o2]
    by_cases hr : S 0 r 33 (S 0 r 35 i) = k
    · rw [if_pos hr, if_pos hr]
      simp only [zlt_v]
      unfold zf_T_gain zf_W_stored
      have e35 : ∀ v : Int, zu S 0 r 36 i v 0 r 35 i = S 0 r 35 i := fun v => by rw [zu_ne (by omega)]
      have e28 : ∀ v : Int, zu T 5 w 29 i v 5 w 28 i = S 0 r 35 i := fun v => by rw [zu_ne (by omega)]; exact o1
      have e32 : ∀ v : Int, zu S 0 r 36 i v 0 r 32 (S 0 r 35 i) = S 0 r 32 (S 0 r 35 i) := fun v => by rw [zu_ne (by omega)]
      have e25 : ∀ v : Int, zu T 5 w 29 i v 5 w 25 (S 0 r 35 i) = S 0 r 32 (S 0 r 35 i) := fun v => by rw [zu_ne (by omega)]; exact g1
      simp only [e35, e28, e32, e25, zlt_v]
      rw [zck_b o3, zck_b o3, zbd_s, zbd_s, zw_in (x := S 0 r 36 i - min x (S 0 r 36 i)) (by omega) (by omega), zw_in (x := x - min x (S 0 r 36 i)) (by omega) (by omega), zw_in (x := S 0 r 32 (S 0 r 35 i) + min x (S 0 r 36 i)) (by omega) (by omega)]
      refine go _ _ _ ((h.order (i := i) (v := S 0 r 36 i - min x (S 0 r 36 i)) (by omega)).stock (i := S 0 r 35 i) (v := min 9999 (S 0 r 32 (S 0 r 35 i) + min x (S 0 r 36 i))) (by omega)) (by omega) ((AG.put (by unfold AK; omega) (by omega)).trans (AG.put (by unfold AK; omega) (by omega))) ((BG.put (by unfold BK; omega)).trans (BG.put (by unfold BK; omega))) ?_ ?_
      · funext r' k'; rw [zu_ne (by omega), zu_ne (by omega)]
      · rw [zu_ne (by omega), zu_ne (by omega)]
    · rw [if_neg hr, if_neg hr]
      exact go x S T h hx (AG.refl r S) (BG.refl w T) rfl rfl
theorem w_load {r w : Int} : ∀ (c n n2 : Nat) (k x : Int) (S T : Sg), 0 ≤ k → k + c = 10 → (0 ≤ x ∧ x ≤ 500) → c < n → c < n2 → Rw S T r w → ∃ (S2 T2 : Sg), zf_T_load_4 r n x k S = some (0, S2) ∧ zf_W_ship_60 w n2 x k T = some (1, T2) ∧ Rw S2 T2 r w ∧ AG r S S2 ∧ BG w T T2 ∧ S2 3 = S 3 ∧ S2 0 r 11 = S 0 r 11
  | 0, n + 1, n2 + 1, k, x, S, T, hk, hc, hx, _, _, h => by
    rw [zf_T_load_4, if_pos (show (9 : Int) < k by omega), zf_W_ship_60, if_pos (show (9 : Int) < k by omega)]
    exact ⟨S, T, rfl, rfl, h, AG.refl r S, BG.refl w T, rfl, rfl⟩
  | c + 1, n + 1, n2 + 1, k, x, S, T, hk, hc, hx, h1, h2, h => by
    have ho := h.1.2.2.2.2.1.2.2.1
    obtain ⟨x', S1, T1, k1, k2, k3, k4, k5, k6, k7, k8⟩ := w_load13 (r := r) (w := w) (k := k) (NO := S 0 r 31 3) (zf_T_load_4 r n) (zf_W_ship_60 w n2) (by omega) ho.2 (S 0 r 31 3).toNat 4096 4096 0 x S T (by decide) (by omega) rfl hx (by omega) (by omega) h
    obtain ⟨S2, T2, l1, l2, l3, l4, l5, l6, l7⟩ := w_load c n n2 (k + 1) x' S1 T1 (by omega) (by omega) k3 (by omega) (by omega) k4
    rw [zf_T_load_4, if_neg (show ¬ (9 : Int) < k by omega), zf_W_ship_60, if_neg (show ¬ (9 : Int) < k by omega), k1, k2, l1, l2]
    exact ⟨S2, T2, rfl, rfl, l3, k5.trans l4, k6.trans l5, l6.trans k7, l7.trans k8⟩
theorem tw_ship {S T : Sg} {r w calm v : Int} (h : Rw S T r w) (hcm : calm = 0 ↔ S 0 r 1 1 < v) (hsk : zf_W_skyOf w 0 (S 0 r 0 0) T = some (v, T)) : ∃ (b : Int) (S2 T2 : Sg), (b = 0 ∨ b = 1) ∧ zf_A_lands r calm S = some (b, S) ∧ (b = 0 → S2 = S) ∧ (b ≠ 0 → zf_T_load r (S 0 r 1 0) (zu S 0 r 0 6 (S 0 r 0 0)) = some (0, S2)) ∧ zf_W_ship w T = some (b, T2) ∧ Rw S2 T2 r w ∧ AG r S S2 ∧ BG w T T2 ∧ S2 3 = S 3 ∧ S2 0 r 11 = S 0 r 11 := by
  obtain ⟨d1, d2, d3, d4, d5, d6, d7, d8, d9, d10⟩ := h.mc
  obtain ⟨-, -, -, -, -, -, -, -, -, -, -, -, -, -, -, c16, r0, -, r2, -⟩ := h.1.1
  have t1 : T 5 w 30 1 = S 0 r 1 1 := c16 1 (by decide) (by decide)
  have hdw : zdiv (S 0 r 0 0) 4 = S 0 r 0 0 / 4 := by rw [zdiv_in (by unfold zn; omega) (by decide), Int.tdiv_eq_ediv_of_nonneg d7.1]
  have nope : zf_A_lands r calm S = some (0, S) → zf_W_ship w T = some (0, T) → ∃ (b : Int) (S2 T2 : Sg), (b = 0 ∨ b = 1) ∧ zf_A_lands r calm S = some (b, S) ∧ (b = 0 → S2 = S) ∧ (b ≠ 0 → zf_T_load r (S 0 r 1 0) (zu S 0 r 0 6 (S 0 r 0 0)) = some (0, S2)) ∧ zf_W_ship w T = some (b, T2) ∧ Rw S2 T2 r w ∧ AG r S S2 ∧ BG w T T2 ∧ S2 3 = S 3 ∧ S2 0 r 11 = S 0 r 11 := fun e1 e2 => ⟨0, S, T, Or.inl rfl, e1, fun _ => rfl, fun q => absurd rfl q, e2, h, AG.refl r S, BG.refl w T, rfl, rfl⟩
  by_cases w4 : S 0 r 0 0 < 4
  · refine nope ?_ ?_
    · unfold zf_A_lands zf_A_lands_26 zf_A_lands_27
      rw [if_pos w4, if_pos w4]
      split
      · rfl
      · split <;> rfl
    · unfold zf_W_ship
      rw [d1, if_pos w4]
  · have eM : zf_W_ship w T = (if S 0 r 0 0 / 4 * 4 ≤ pv (S 0 r 0 6) then some (0, T) else if v ≤ S 0 r 1 1 then zf_W_ship_60 w 4096 (T 5 w 30 0) 0 (zu T 5 w 0 41 (S 0 r 0 0)) else some (0, T)) := by
      unfold zf_W_ship
      rw [d1, if_neg w4, hdw, zw_in (x := S 0 r 0 0 / 4 * 4) (by omega) (by omega), d6, hsk, zbd_s, t1, d1, zlt_v, zlt_v, show zu T 5 w 0 41 (S 0 r 0 0) 5 w 30 0 = T 5 w 30 0 by rw [zu_ne (by omega)]]
    have eC : zf_A_lands r calm S = (if S 0 r 0 0 / 4 * 4 ≤ pv (S 0 r 0 6) then some (0, S) else if calm = 0 then some (0, S) else some (1, S)) := by
      unfold zf_A_lands zf_A_lands_26 zf_A_lands_27
      by_cases hl : S 0 r 0 6 < 0
      · rw [if_pos hl, if_neg w4, if_pos rfl, if_neg (show ¬ S 0 r 0 0 / 4 * 4 ≤ pv (S 0 r 0 6) by unfold pv; rw [if_pos hl]; omega)]
      · have hdl : zdiv (S 0 r 0 6) 4 = S 0 r 0 6 / 4 := by rw [zdiv_in (by unfold zn; omega) (by decide), Int.tdiv_eq_ediv_of_nonneg (by omega)]
        rw [if_neg hl, hdl, hdw, if_neg w4, if_neg w4, show pv (S 0 r 0 6) = S 0 r 0 6 from if_neg hl]
        by_cases hm : S 0 r 0 6 / 4 = S 0 r 0 0 / 4
        · rw [if_pos hm, if_pos (show S 0 r 0 0 / 4 * 4 ≤ S 0 r 0 6 by omega)]
          split
          · rfl
          · rfl
        · rw [if_neg hm, if_neg (show ¬ S 0 r 0 0 / 4 * 4 ≤ S 0 r 0 6 by omega), if_pos rfl]
    by_cases hm : S 0 r 0 0 / 4 * 4 ≤ pv (S 0 r 0 6)
    · rw [if_pos hm] at eM eC
      exact nope eC eM
    · rw [if_neg hm] at eM eC
      by_cases hc : calm = 0
      · have := hcm.mp hc
        rw [if_neg (by omega)] at eM
        rw [if_pos hc] at eC
        exact nope eC eM
      · have : ¬ S 0 r 1 1 < v := fun e => hc (hcm.mpr e)
        rw [if_pos (by omega), c16 0 (by decide) (by decide)] at eM
        rw [if_neg hc] at eC
        obtain ⟨S2, T2, k1, k2, k3, k4, k5, k6, k7⟩ := w_load 10 4096 4096 0 (S 0 r 1 0) _ _ (by decide) (by decide) r0 (by decide) (by decide) h.lands
        refine ⟨1, S2, T2, Or.inr rfl, eC, fun q => absurd q n10, fun _ => k1, by rw [eM, k2], k3, (AG.put (by unfold AK; omega) (by omega)).trans k4, (BG.put (by unfold BK; omega)).trans k5, ?_, ?_⟩
        · rw [k6]; funext r' k'; rw [zu_ne (by omega)]
        · rw [k7, zu_ne (by omega)]
