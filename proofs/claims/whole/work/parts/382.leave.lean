/-! ===== a week: who is at odds leaves ===== -/
theorem Rw.away {S T : Sg} {r w i : Int} (h : Rw S T r w) : Rw (zu (zu S 0 r 11 i 1) 0 r 13 i 0) (zu (zu T 5 w 5 i 1) 5 w 7 i 0) r w := by
  refine h.step ((AG.put (by unfold AK; omega) (by omega)).trans (AG.put (by unfold AK; omega) (by omega))) ((BG.put (by unfold BK; omega)).trans (BG.put (by unfold BK; omega))) (h.mc.to (by rw [zu_ne (by omega), zu_ne (by omega)]) (by rw [zu_ne (by omega), zu_ne (by omega)])) (h.mh.to (by rw [zu_ne (by omega), zu_ne (by omega)]) (by rw [zu_ne (by omega), zu_ne (by omega)]) (by rw [zu_ne (by omega), zu_ne (by omega)]) (by rw [zu_ne (by omega), zu_ne (by omega)]) (by rw [zu_ne (by omega), zu_ne (by omega)]) (by rw [zu_ne (by omega), zu_ne (by omega)])) ?_ (h.ms.to (by rw [zu_ne (by omega), zu_ne (by omega)]) (by rw [zu_ne (by omega), zu_ne (by omega)]) (by rw [zu_ne (by omega), zu_ne (by omega)]) (by rw [zu_ne (by omega), zu_ne (by omega)]))
  intro j p q
  have c := h.mp j p q
  have e11 : zu (zu S 0 r 11 i 1) 0 r 13 i 0 0 r 11 = zu S 0 r 11 i 1 0 r 11 := zu_ne (by omega)
  have e5 : zu (zu T 5 w 5 i 1) 5 w 7 i 0 5 w 5 = zu T 5 w 5 i 1 5 w 5 := zu_ne (by omega)
  have e14 : zu (zu S 0 r 11 i 1) 0 r 13 i 0 0 r 14 = S 0 r 14 := by rw [zu_ne (by omega), zu_ne (by omega)]
  have e8 : zu (zu T 5 w 5 i 1) 5 w 7 i 0 5 w 8 = T 5 w 8 := by rw [zu_ne (by omega), zu_ne (by omega)]
  have e15 : zu (zu S 0 r 11 i 1) 0 r 13 i 0 0 r 15 = S 0 r 15 := by rw [zu_ne (by omega), zu_ne (by omega)]
  have e9 : zu (zu T 5 w 5 i 1) 5 w 7 i 0 5 w 9 = T 5 w 9 := by rw [zu_ne (by omega), zu_ne (by omega)]
  have e13 : ∀ j, j ≠ i → zu (zu S 0 r 11 i 1) 0 r 13 i 0 0 r 13 j = S 0 r 13 j := fun j q => by rw [zu_pl q, zu_ne (by omega)]
  have e7 : ∀ j, j ≠ i → zu (zu T 5 w 5 i 1) 5 w 7 i 0 5 w 7 j = T 5 w 7 j := fun j q => by rw [zu_pl q, zu_ne (by omega)]
  rw [e11, e5, e14, e8, e15, e9]
  by_cases e : j = i
  · subst e
    refine ⟨by rw [zu_at, zu_at], by rw [zu_at, zu_at], c.2.2.1, c.2.2.2.1, by rw [zu_at]; decide, by rw [zu_at]; decide, c.2.2.2.2.2.2.1, c.2.2.2.2.2.2.2⟩
  · rw [e13 j e, e7 j e, zu_pl e, zu_pl e]
    exact c
theorem pv_i {x i : Int} (h : 0 ≤ i) (hx : -1 ≤ x) : (pv x = i) = (x = i) := by
  unfold pv
  by_cases q : x < 0
  · rw [if_pos q]
    apply propext
    constructor
    · intro e; omega
    · intro e; omega
  · rw [if_neg q]
theorem w_kids {r w N i : Int} (qc qm : Int → Sg → Option (Int × Sg)) (hi0 : 0 ≤ i) : ∀ (c n n2 : Nat) (j : Int) (S T : Sg), 0 ≤ j → j + c = N → N ≤ 40 → S 0 r 6 0 = N → c < n → c < n2 → Rw S T r w → ∃ S2 T2 : Sg, zf_A_leave_88 r qc n i j S = zf_A_leave_134 r qc i S2 ∧ zf_W_leave_70 w qm n2 i j T = zf_W_leave_112 w qm i T2 ∧ Rw S2 T2 r w ∧ AG r S S2 ∧ BG w T T2 ∧ S2 3 = S 3
  | 0, n + 1, n2 + 1, j, S, T, hj, hc, h40, hN, _, _, h => by
    have hn := h.1.2.2.1.1
    rw [zf_A_leave_88, if_pos (show S 0 r 6 0 ≤ j by omega), zf_W_leave_70, if_pos (show T 5 w 0 1 ≤ j by omega)]
    exact ⟨S, T, rfl, rfl, h, AG.refl r S, BG.refl w T, rfl⟩
  | c + 1, n + 1, n2 + 1, j, S, T, hj, hc, h40, hN, h1, h2, h => by
    have hn := h.1.2.2.1.1
    have hx : 0 ≤ j ∧ j < 40 := by omega
    have hwk := h.mc.1
    have hwr := h.mc.2.2.2.2.2.2.1
    obtain ⟨c1, c2, c3, c4, c5, c6, c7, c8, c9, c10, c11, c12, -⟩ := h.1.2.2.1.2.2 j hj (by omega)
    have go : ∀ S' T' : Sg, Rw S' T' r w → AG r S S' → BG w T T' → S' 3 = S 3 → ∃ S2 T2 : Sg, zf_A_leave_128 r qc (zf_A_leave_88 r qc n) i j S' = zf_A_leave_134 r qc i S2 ∧ zf_W_leave_106 w qm (zf_W_leave_70 w qm n2) i j T' = zf_W_leave_112 w qm i T2 ∧ Rw S2 T2 r w ∧ AG r S S2 ∧ BG w T T2 ∧ S2 3 = S 3 := by
      intro S' T' h' a b a3
      obtain ⟨S2, T2, k1, k2, k3, k4, k5, k6⟩ := w_kids qc qm hi0 c n n2 (j + 1) S' T' (by omega) (by omega) h40 (by rw [a.1 0 r 6 (by unfold AK; omega)]; exact hN) (by omega) (by omega) h'
      refine ⟨S2, T2, ?_, ?_, k3, a.trans k4, b.trans k5, k6.trans a3⟩
      · unfold zf_A_leave_128
        rw [zlt_v, zw_in (by omega) (by omega)]
        exact k1
      · unfold zf_W_leave_106
        rw [zlt_v, zw_in (by omega) (by omega)]
        exact k2
    rw [zf_A_leave_88, if_neg (show ¬ S 0 r 6 0 ≤ j by omega), zck_b hx, zf_W_leave_70, if_neg (show ¬ T 5 w 0 1 ≤ j by omega), zck_b hx, c3]
    by_cases e : S 0 r 9 j = i
    · rw [if_pos e, if_pos (show pv (S 0 r 9 j) = i by rw [pv_i hi0 (by omega)]; exact e), pf_P_kind hx (by omega) hwr, zbd_s, pf_W_kind hx (by omega) (by omega), zbd_s, c5, c6, c1, c4, hwk]
      by_cases e1 : kindS (S 0 r 11 j) (S 0 r 12 j) (S 0 r 7 j) (S 0 r 10 j) (S 0 r 0 0) = 1
      · rw [if_pos e1, if_pos e1]
        unfold zf_P_goAway zf_W_go
        rw [zck_b hx, zck_b hx, zlt_v, zlt_v, zlt_v, zlt_v, zbd_s, zbd_s]
        refine go _ _ h.away ((AG.put (by unfold AK; omega) (by omega)).trans (AG.put (by unfold AK; omega) (by omega))) ((BG.put (by unfold BK; omega)).trans (BG.put (by unfold BK; omega))) ?_
        funext r' k
        rw [zu_ne (by omega), zu_ne (by omega)]
      · rw [if_neg e1, if_neg e1]
        exact go S T h (AG.refl r S) (BG.refl w T) rfl
    · rw [if_neg e, if_neg (show ¬ pv (S 0 r 9 j) = i by rw [pv_i hi0 (by omega)]; exact e)]
      exact go S T h (AG.refl r S) (BG.refl w T) rfl
theorem w_leave {r w N : Int} : ∀ (c n n2 : Nat) (i : Int) (S T : Sg), 0 ≤ i → i + c = N → N ≤ 40 → S 0 r 6 0 = N → c < n → c < n2 → Rw S T r w → ∃ S2 T2 : Sg, zf_A_leave_7 r n i S = some (0, S2) ∧ zf_W_leave_2 w n2 i T = some (0, T2) ∧ Rw S2 T2 r w ∧ AG r S S2 ∧ BG w T T2 ∧ S2 3 0 15 = S 3 0 15
  | 0, n + 1, n2 + 1, i, S, T, hi, hc, h40, hN, _, _, h => by
    have hn := h.1.2.2.1.1
    rw [zf_A_leave_7, if_pos (show S 0 r 6 0 ≤ i by omega), zf_W_leave_2, if_pos (show T 5 w 0 1 ≤ i by omega)]
    exact ⟨S, T, rfl, rfl, h, AG.refl r S, BG.refl w T, rfl⟩
  | c + 1, n + 1, n2 + 1, i, S, T, hi, hc, h40, hN, h1, h2, h => by
    have hn := h.1.2.2.1.1
    have hx : 0 ≤ i ∧ i < 40 := by omega
    have hwk := h.mc.1
    have hwr := h.mc.2.2.2.2.2.2.1
    obtain ⟨c1, c2, c3, c4, c5, c6, c7, c8, c9, c10, c11, c12, -⟩ := h.1.2.2.1.2.2 i hi (by omega)
    obtain ⟨-, -, -, -, -, -, -, -, -, -, -, -, -, -, -, c16, -⟩ := h.1.1
    have t3 : T 5 w 30 3 = S 0 r 1 3 := c16 3 (by decide) (by decide)
    have go : ∀ S' T' : Sg, Rw S' T' r w → AG r S S' → BG w T T' → S' 3 0 15 = S 3 0 15 → ∃ S2 T2 : Sg, zf_A_leave_134 r (zf_A_leave_7 r n) i S' = some (0, S2) ∧ zf_W_leave_112 w (zf_W_leave_2 w n2) i T' = some (0, T2) ∧ Rw S2 T2 r w ∧ AG r S S2 ∧ BG w T T2 ∧ S2 3 0 15 = S 3 0 15 := by
      intro S' T' h' a b a3
      obtain ⟨S2, T2, k1, k2, k3, k4, k5, k6⟩ := w_leave c n n2 (i + 1) S' T' (by omega) (by omega) h40 (by rw [a.1 0 r 6 (by unfold AK; omega)]; exact hN) (by omega) (by omega) h'
      refine ⟨S2, T2, ?_, ?_, k3, a.trans k4, b.trans k5, k6.trans a3⟩
      · unfold zf_A_leave_134
        rw [zlt_v, zw_in (by omega) (by omega)]
        exact k1
      · unfold zf_W_leave_112
        rw [zlt_v, zw_in (by omega) (by omega)]
        exact k2
    have cond : ∃ S2 T2 : Sg, zf_A_leave_37 r (zf_A_leave_7 r n) i S = some (0, S2) ∧ zf_W_leave_25 w (zf_W_leave_2 w n2) i T = some (0, T2) ∧ Rw S2 T2 r w ∧ AG r S S2 ∧ BG w T T2 ∧ S2 3 0 15 = S 3 0 15 := by
      unfold zf_A_leave_37 zf_W_leave_25 zf_W_leave_30
      rw [zck_b hx, if_neg n10, zck_b hx, c7, t3]
      by_cases e : S 0 r 13 i < S 0 r 1 3
      · rw [if_pos e, if_pos e]
        unfold zf_A_leave_56 zf_A_leave_57
        rw [if_pos z00]
        exact go S T h (AG.refl r S) (BG.refl w T) rfl
      · rw [if_neg e, if_neg e]
        unfold zf_A_leave_57
        obtain ⟨v, S1, T1, k1, k2, -, k4, k5⟩ := pf_may 3 h (show 0 ≤ i ∧ i < S 0 r 6 0 by omega)
        have hR := h.keep k4 k5
        have a15 : S1 3 0 15 = S 3 0 15 := k4 3 0 15 (by omega)
        rw [if_neg n10, k1, zbd_s, k2, zbd_s]
        by_cases ev : v = 0
        · rw [if_pos ev, if_pos ev]
          exact go S1 T1 hR k4.ag k5.bg a15
        · rw [if_neg ev, if_neg ev]
          unfold zf_P_goAway zf_W_go
          rw [zck_b hx, zck_b hx, zlt_v, zlt_v, zlt_v, zlt_v, zbd_s, zbd_s]
          have a1 : AG r S1 (zu (zu S1 0 r 11 i 1) 0 r 13 i 0) := (AG.put (by unfold AK; omega) (by omega)).trans (AG.put (by unfold AK; omega) (by omega))
          have b1 : BG w T1 (zu (zu T1 5 w 5 i 1) 5 w 7 i 0) := (BG.put (by unfold BK; omega)).trans (BG.put (by unfold BK; omega))
          have a2 := k4.ag.trans a1 (r := r)
          have hN2 : zu (zu S1 0 r 11 i 1) 0 r 13 i 0 0 r 6 0 = N := by rw [a2.1 0 r 6 (by unfold AK; omega)]; exact hN
          obtain ⟨S2, T2, l1, l2, l3, l4, l5, l6⟩ := w_kids (r := r) (w := w) (N := N) (i := i) (zf_A_leave_7 r n) (zf_W_leave_2 w n2) hi N.toNat 4096 4096 0 _ _ (by decide) (by omega) h40 hN2 (by omega) (by omega) hR.away
          rw [l1, l2]
          exact go S2 T2 l3 (a2.trans l4) ((k5.bg.trans b1).trans l5) (by rw [l6, zu_ne (by omega), zu_ne (by omega)]; exact a15)
    rw [zf_A_leave_7, if_neg (show ¬ S 0 r 6 0 ≤ i by omega), pf_P_kind hx (by omega) hwr, zbd_s, zf_W_leave_2, if_neg (show ¬ T 5 w 0 1 ≤ i by omega), pf_W_kind hx (by omega) (by omega), zbd_s, c5, c6, c1, c4, hwk]
    by_cases k0 : kindS (S 0 r 11 i) (S 0 r 12 i) (S 0 r 7 i) (S 0 r 10 i) (S 0 r 0 0) = 0
    · rw [if_pos k0, if_pos k0]
      exact cond
    · rw [if_neg k0, if_neg k0]
      by_cases k2 : kindS (S 0 r 11 i) (S 0 r 12 i) (S 0 r 7 i) (S 0 r 10 i) (S 0 r 0 0) = 2
      · rw [if_pos k2, if_pos k2]
        exact cond
      · rw [if_neg k2, if_neg k2]
        unfold zf_A_leave_56 zf_A_leave_57 zf_W_leave_30
        rw [if_pos z00, if_pos z00]
        exact go S T h (AG.refl r S) (BG.refl w T) rfl
theorem tw_leave {S T : Sg} {r w : Int} (h : Rw S T r w) : ∃ S2 T2 : Sg, zf_A_leave r S = some (0, S2) ∧ zf_W_leave w T = some (0, T2) ∧ Rw S2 T2 r w ∧ AG r S S2 ∧ BG w T T2 ∧ S2 3 0 15 = S 3 0 15 := by
  have hn := h.1.2.2.1.2.1
  exact w_leave (S 0 r 6 0).toNat 4096 4096 0 S T (by decide) (by omega) hn.2 rfl (by omega) (by omega) h
