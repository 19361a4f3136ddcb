/-! ===== tries: worth, lack ===== -/
theorem w_heads {N : Int} : ∀ (c n n2 : Nat) (i : Int) (S T : Sg), 0 ≤ i → i + c = N → N ≤ 30 → S 0 2 0 0 + c ≤ 400 → c < n → c < n2 → Rw S T 2 1 → Rcr S → Zs S → ∃ (a : Int) (S2 T2 : Sg), zf_O_headsInMind_2 n N i S = some (a, S2) ∧ zf_M_headsBehind_2 n2 N i T = some (a, T2) ∧ Rcr S2 ∧ Zs S2 ∧ Fm TC S S2 ∧ Fm TM T T2
  | 0, n + 1, n2 + 1, i, S, T, hi, hc, hN, h4, _, _, h, hcr, hz => by
    have h3 := h.1.2.2.1
    have := h3.1
    have := h3.2.1
    rw [zf_O_headsInMind_2, if_pos (show N ≤ i by omega), zf_M_headsBehind_2, if_pos (show N ≤ i by omega), pf_P_in h3.2.1, zbd_s, pf_W_inState (by omega), zbd_s, in_like2 h3]
    exact ⟨_, S, T, rfl, rfl, hcr, hz, Fm.refl _ _, Fm.refl _ _⟩
  | c + 1, n + 1, n2 + 1, i, S, T, hi, hc, hN, h4, h1, h2, h, hcr, hz => by
    obtain ⟨L0, L1, L2, L3, A, T2, -, -, -, -, a1, a2, a3, a4, a5, -⟩ := tw_pass h hcr (hz 2) (by omega)
    obtain ⟨a, C, T3, k1, k2, k3, k4, k5, k6⟩ := w_heads c n n2 (i + 1) A T2 (by omega) (by omega) hN (by omega) (by omega) (by omega) a3 a4 (pass_zs a1 hz)
    refine ⟨a, C, T3, ?_, ?_, k3, k4, (pass_tc a1).trans k5, (step_tm a2).trans k6⟩
    · rw [zf_O_headsInMind_2, if_neg (show ¬ N ≤ i by omega), a1, zbd_s, zlt_v, zw_in (x := i + 1) (by omega) (by omega)]
      exact k1
    · rw [zf_M_headsBehind_2, if_neg (show ¬ N ≤ i by omega), a2, zbd_s, zlt_v, zw_in (x := i + 1) (by omega) (by omega)]
      exact k2
theorem Rw.shut {S T : Sg} {r w x : Int} (h : Rw S T r w) : Rw (zu S 0 r 30 x 0) (zu T 5 w 24 x 0) r w := by
  obtain ⟨⟨h1, h2, h3, h4, h5, h6⟩, h7, h8⟩ := h
  have eS : ∀ k, k ≠ 30 → zu S 0 r 30 x 0 0 r k = S 0 r k := fun k q => zu_ne (by omega)
  have eT : ∀ k, k ≠ 24 → zu T 5 w 24 x 0 5 w k = T 5 w k := fun k q => zu_ne (by omega)
  have gS : ∀ g : Nat, g ≠ 0 → zu S 0 r 30 x 0 g = S g := fun g q => by funext r' k i; exact if_neg (by omega)
  have gT : ∀ g : Nat, g ≠ 5 → zu T 5 w 24 x 0 g = T g := fun g q => by funext r' k i; exact if_neg (by omega)
  refine ⟨⟨?_, ?_, ?_, ?_, ?_, ?_⟩, ?_, ?_⟩
  · unfold Rsc2
    rw [eS 0 (by decide), eS 1 (by decide), eT 0 (by decide), eT 30 (by decide), eT 31 (by decide)]
    exact h1
  · intro i a b
    have c := h2 i a b
    unfold Rh12 at c ⊢
    rw [eS 2 (by decide), eS 3 (by decide), eS 4 (by decide), eS 5 (by decide), eT 10 (by decide), eT 11 (by decide), eT 12 (by decide), eT 13 (by decide)]
    exact c
  · refine ⟨by rw [eS 6 (by decide), eT 0 (by decide)]; exact h3.1, by rw [eS 6 (by decide)]; exact h3.2.1, fun i a b => ?_⟩
    rw [eS 6 (by decide)] at b
    have c := h3.2.2 i a b
    unfold Rp12 at c ⊢
    rw [eS 0 (by decide), eS 7 (by decide), eS 8 (by decide), eS 9 (by decide), eS 10 (by decide), eS 11 (by decide), eS 12 (by decide), eS 13 (by decide), eS 14 (by decide), eS 15 (by decide), eT 1 (by decide), eT 2 (by decide), eT 3 (by decide), eT 4 (by decide), eT 5 (by decide), eT 6 (by decide), eT 7 (by decide), eT 8 (by decide), eT 9 (by decide)]
    exact c
  · refine ⟨by rw [eS 26 (by decide), eT 0 (by decide)]; exact h4.1, by rw [eS 26 (by decide)]; exact h4.2.1, fun i a b => ?_⟩
    rw [eS 26 (by decide)] at b
    have c := h4.2.2 i a b
    unfold Rq12 at c ⊢
    rw [eS 27 (by decide), eS 28 (by decide), eS 29 (by decide), eT 21 (by decide), eT 22 (by decide), eT 23 (by decide)]
    obtain ⟨c1, c2, c3, c4, c5, c6, c7, c8⟩ := c
    by_cases e : i = x
    · rw [e, zu_at, zu_at]
      rw [e] at c1 c2 c3 c5 c6 c7
      exact ⟨c1, c2, c3, rfl, c5, c6, c7, by decide⟩
    · rw [zu_pl e, zu_pl e]
      exact ⟨c1, c2, c3, c4, c5, c6, c7, c8⟩
  · refine ⟨fun g a b => ?_, by rw [eS 31 (by decide), eT 0 (by decide)]; exact h5.2.1, by rw [eS 31 (by decide)]; exact h5.2.2.1, fun i a b => ?_⟩
    · have c := h5.1 g a b
      unfold Rg12 at c ⊢
      rw [eS 32 (by decide), eS 33 (by decide), eS 34 (by decide), eT 25 (by decide), eT 26 (by decide), eT 27 (by decide)]
      exact c
    · rw [eS 31 (by decide)] at b
      have c := h5.2.2.2 i a b
      unfold Ro12 at c ⊢
      rw [eS 35 (by decide), eS 36 (by decide), eT 28 (by decide), eT 29 (by decide)]
      exact c
  · intro k a b
    have c := h6 k a b
    rw [gS 13 (by decide), gS 14 (by decide), gT 7 (by decide), eT 32 (by decide), eT 33 (by decide)]
    exact c
  · exact h7.to (fun k a b => eS k (by omega)) (fun k a b => eT k (by omega)) (by rw [eT 0 (by decide)]) (gT 6 (by decide))
  · intro l a b
    rw [eS 16 (by decide)] at b
    obtain ⟨L, e, c1, c2, c3, c4, c5, c6, c7⟩ := h8 l a b
    refine ⟨L, e, c1, ?_, c3, ?_, ?_, ?_, c7⟩
    · rw [eT 14 (by decide)]; exact c2
    · rw [gT 6 (by decide)]; exact c4
    · rw [eS 25 (by decide)]; exact c5
    · rw [gS 1 (by decide)]; exact c6
theorem Rcr.bc {S S2 : Sg} (h : Rcr S) (hb : Bc 2 S S2) : Rcr S2 := h.to (by funext r k; exact hb 20 r k (by omega)) (by funext r k; exact hb 3 r k (by omega))
theorem pf_Q_has2 {S : Sg} {r x : Int} : zf_Q_has r x S = some (if 0 ≤ x ∧ x < S 0 r 26 0 then 1 else 0, S) := by
  unfold zf_Q_has
  by_cases a : x < 0
  · rw [if_pos a, if_neg (by omega)]
  · rw [if_neg a]
    by_cases b : S 0 r 26 0 ≤ x
    · rw [if_pos b, if_neg (by omega)]
    · rw [if_neg b, if_pos (by omega)]
theorem tw_worth2 {S T : Sg} (x y : Int) (h : R2 S T ∧ Zs S) : ∃ (a : Int) (S2 T2 : Sg), zf_O_worth x y S = some (a, S2) ∧ zf_M_worth x y T = some (a, T2) ∧ R2 S2 T2 := by
  obtain ⟨h, hz⟩ := h
  have hT := h.th 0
  unfold zf_O_worth zf_M_worth
  rw [zlt_v]
  generalize zu T 9 0 0 4 0 = U at hT
  have hw0 := hT.1.mc.2.2.2.2.2.2.1
  have hp := hT.1.1.2.2.2.1
  have := hp.1
  have := hp.2.1
  rw [pf_Q_has2, zbd_s, pf_M_isPost (S := U) x (by omega), zbd_s, hp.1]
  by_cases hx : 0 ≤ x ∧ x < S 0 0 26 0
  · rw [if_pos hx, if_neg n10, if_neg n10, pf_M_in, zbd_s]
    by_cases hy : 1 ≤ y ∧ y ≤ 30
    · rw [if_neg (by omega), if_pos hy.2, if_pos hy, if_neg n10, hT.1.mc.1, zw_in (x := S 0 0 0 0 + y) (by omega) (by omega)]
      by_cases hq : S 0 0 0 0 + y ≤ 400
      · rw [if_pos hq, if_pos hq]
        obtain ⟨A, B, a1, a2, a3, a4, a5, a6, -⟩ := tw_become (a := 2) (aw := 1) hT.1 (by decide) (by decide)
        rw [a1, zbd_s, a2, zbd_s]
        obtain ⟨u, C, D, b1, b2, b3, b4, b5, b6⟩ := w_heads (N := y) y.toNat 4096 4096 0 A B (by decide) (by omega) hy.2 (by omega) (by omega) (by omega) a3 (hT.2.1.bc a4) (i_zs a1 hz)
        have b1' : zf_O_headsInMind y A = some (u, C) := b1
        have b2' : zf_M_headsBehind y B = some (u, D) := b2
        rw [b1', zbd_s, b2', zbd_s]
        have t1 := a4.tc.trans b5
        have t2 := a5.tm.trans b6
        have hCD : Rw C D 0 0 := hT.1.try t1 t2
        have wC : C 0 0 0 0 = S 0 0 0 0 := t1 0 0 0 0 (by unfold TC; omega)
        obtain ⟨E, F, c1, c2, c3, c4, c5, c6, -⟩ := tw_become (a := 2) (aw := 1) hCD (by decide) (by decide)
        rw [c1, zbd_s, c2, zbd_s, zck_b (by omega), zck_b (by omega), zlt_v, zlt_v]
        have f1 : Fm TC E (zu E 0 2 30 x 0) := fun g r k i q => if_neg (fun e => q (by unfold TC; omega))
        have f2 : Fm TM F (zu F 5 1 24 x 0) := fun g r k i q => if_neg (fun e => q (by unfold TM; omega))
        obtain ⟨v, G, H, d1, d2, d3, d4, d5, d6⟩ := w_heads (N := y) y.toNat 4096 4096 0 _ _ (by decide) (by omega) hy.2 (by rw [show zu E 0 2 30 x 0 0 2 0 = E 0 2 0 from zu_ne (by omega)]; omega) (by omega) (by omega) (c3.shut (x := x)) ((b3.bc c4).to (by funext r k; exact zu_ne (by omega)) (by funext r k; exact zu_ne (by omega))) (fun r k i => by rw [show zu E 0 2 30 x 0 14 r k = E 14 r k from zu_ne (by omega)]; exact i_zs c1 b4 r k i)
        have d1' : zf_O_headsInMind y (zu E 0 2 30 x 0) = some (v, G) := d1
        have d2' : zf_M_headsBehind y (zu F 5 1 24 x 0) = some (v, H) := d2
        rw [d1', zbd_s, d2', zbd_s]
        exact ⟨_, G, H, rfl, rfl, hT.try (((t1.trans c4.tc).trans f1).trans d5) (((t2.trans c5.tm).trans f2).trans d6) d3⟩
      · rw [if_neg hq, if_neg hq]
        exact ⟨-1002, S, U, rfl, rfl, hT⟩
    · rw [if_neg hy, if_pos rfl]
      by_cases h1' : y < 1
      · rw [if_pos h1']
        exact ⟨-1001, S, U, rfl, rfl, hT⟩
      · rw [if_neg h1', if_neg (by omega)]
        exact ⟨-1001, S, U, rfl, rfl, hT⟩
  · rw [if_neg hx, if_pos rfl, if_pos rfl]
    exact ⟨-1001, S, U, rfl, rfl, hT⟩
theorem zand_good {L0 L1 L2 L3 g : Int} (h0 : L0 = 0 ∨ L0 = 1) (h1 : L1 = 0 ∨ L1 = 1) (h2 : L2 = 0 ∨ L2 = 1) (h3 : L3 = 0 ∨ L3 = 1) (hg : g = 0 ∨ g = 1 ∨ g = 2 ∨ g = 3) : zand (L0 + 2 * L1 + 4 * L2 + 8 * L3) (zshl 1 g) = 0 ↔ ¬ (if g = 0 then L0 else if g = 1 then L1 else if g = 2 then L2 else L3) = 1 := by
  rcases h0 with e | e <;> rcases h1 with e1 | e1 <;> rcases h2 with e2 | e2 <;> rcases h3 with e3 | e3 <;> rcases hg with e4 | e4 | e4 | e4 <;> subst e e1 e2 e3 e4 <;> decide +kernel
theorem w_lack {N g : Int} (hg : 0 ≤ g ∧ g < 4) : ∀ (c n n2 : Nat) (i : Int) (S T : Sg), 0 ≤ i → i + c = N → N ≤ 30 → S 0 2 0 0 + c ≤ 400 → c < n → c < n2 → Rw S T 2 1 → Rcr S → Zs S → ∃ (a : Int) (S2 T2 : Sg), zf_O_lackInMind_2 n (zshl 1 g) N i S = some (a, S2) ∧ zf_M_lack_52 n2 g N i T = some (if a = 1000000 then -2 else a, T2) ∧ Rcr S2 ∧ Fm TC S S2 ∧ Fm TM T T2
  | 0, n + 1, n2 + 1, i, S, T, hi, hc, hN, h4, _, _, h, hcr, hz => by
    rw [zf_O_lackInMind_2, if_pos (show N ≤ i by omega), zf_M_lack_52, if_pos (show N ≤ i by omega)]
    exact ⟨1000000, S, T, rfl, rfl, hcr, Fm.refl _ _, Fm.refl _ _⟩
  | c + 1, n + 1, n2 + 1, i, S, T, hi, hc, hN, h4, h1, h2, h, hcr, hz => by
    have hw0 := h.mc.2.2.2.2.2.2.1
    obtain ⟨L0, L1, L2, L3, A, T2, l0, l1, l2, l3, a1, a2, a3, a4, a5, b0, b1, b2, b3, -⟩ := tw_pass h hcr (hz 2) (by omega)
    have hgood := zand_good (g := g) l0 l1 l2 l3 (by omega)
    have hT2 : T2 5 1 34 g = (if g = 0 then L0 else if g = 1 then L1 else if g = 2 then L2 else L3) := by
      have e : g = 0 ∨ g = 1 ∨ g = 2 ∨ g = 3 := by omega
      rcases e with e | e | e | e <;> subst e
      · exact b0
      · exact b1
      · exact b2
      · exact b3
    rw [zf_O_lackInMind_2, if_neg (show ¬ N ≤ i by omega), zlt_v, a1, zbd_s, zf_M_lack_52, if_neg (show ¬ N ≤ i by omega), a2, zbd_s, zck_b hg, hT2]
    by_cases q : zand (L0 + 2 * L1 + 4 * L2 + 8 * L3) (zshl 1 g) = 0
    · rw [if_pos q, if_neg (hgood.mp q), zlt_v, zlt_v, zw_in (x := i + 1) (by omega) (by omega)]
      obtain ⟨a, C, T3, k1, k2, k3, k4, k5⟩ := w_lack hg c n n2 (i + 1) A T2 (by omega) (by omega) hN (by omega) (by omega) (by omega) a3 a4 (pass_zs a1 hz)
      exact ⟨a, C, T3, k1, k2, k3, (pass_tc a1).trans k4, (step_tm a2).trans k5⟩
    · rw [if_neg q, if_pos (Decidable.not_not.mp (fun e => q (hgood.mpr e))), a3.mc.1, a5, zw_in (x := S 0 2 0 0 + 1 - 1) (by omega) (by omega)]
      refine ⟨S 0 2 0 0, A, T2, rfl, ?_, a4, pass_tc a1, step_tm a2⟩
      rw [if_neg (by omega), show S 0 2 0 0 + 1 - 1 = S 0 2 0 0 by omega]
theorem tw_lack2 {S T : Sg} (x y : Int) (h : R2 S T ∧ Zs S) : ∃ (a : Int) (S2 T2 : Sg), zf_O_lack x y S = some (a, S2) ∧ zf_M_lack x y T = some (a, T2) ∧ R2 S2 T2 := by
  obtain ⟨h, hz⟩ := h
  have hT := h.th 0
  unfold zf_O_lack zf_M_lack
  rw [zlt_v]
  generalize zu T 9 0 0 4 0 = U at hT
  have hw0 := hT.1.mc.2.2.2.2.2.2.1
  rw [pf_O_isGood, zbd_s, pf_M_isGood, zbd_s]
  by_cases hx : 0 ≤ x ∧ x < 4
  · rw [if_pos hx, if_neg n10, if_neg n10, pf_M_in, zbd_s]
    by_cases hy : 1 ≤ y ∧ y ≤ 30
    · rw [if_neg (by omega), if_neg (by omega), if_pos hy, if_neg n10, hT.1.mc.1, zw_in (x := S 0 0 0 0 + y) (by omega) (by omega)]
      by_cases hq : S 0 0 0 0 + y ≤ 400
      · rw [if_pos hq, if_pos hq]
        obtain ⟨A, B, a1, a2, a3, a4, a5, a6, -⟩ := tw_become (a := 2) (aw := 1) hT.1 (by decide) (by decide)
        rw [a1, zbd_s, a2, zbd_s]
        obtain ⟨u, C, D, b1, b2, b3, b5, b6⟩ := w_lack (N := y) (g := x) hx y.toNat 4096 4096 0 A B (by decide) (by omega) hy.2 (by omega) (by omega) (by omega) a3 (hT.2.1.bc a4) (i_zs a1 hz)
        have b1' : zf_O_lackInMind (zshl 1 x) y A = some (u, C) := b1
        rw [b1', zbd_s, b2]
        have fin := hT.try (a4.tc.trans b5) (a5.tm.trans b6) b3
        by_cases q : u = 1000000
        · rw [if_pos q, if_pos q]
          exact ⟨-2, C, D, rfl, rfl, fin⟩
        · rw [if_neg q, if_neg q]
          exact ⟨u, C, D, rfl, rfl, fin⟩
      · rw [if_neg hq, if_neg hq]
        exact ⟨-1, S, U, rfl, rfl, hT⟩
    · rw [if_neg hy, if_pos rfl]
      by_cases h1' : y < 1
      · rw [if_pos h1']
        exact ⟨-1, S, U, rfl, rfl, hT⟩
      · rw [if_neg h1', if_pos (by omega)]
        exact ⟨-1, S, U, rfl, rfl, hT⟩
  · rw [if_neg hx, if_pos rfl, if_pos rfl]
    exact ⟨-1, S, U, rfl, rfl, hT⟩
