/-! ===== a week: all who are named go to work ===== -/
theorem Rw.post {S T : Sg} {r w i v : Int} (h : Rw S T r w) (hv : -1 ≤ v ∧ v < 8) : Rw (zu S 0 r 14 i v) (zu T 5 w 8 i (pv v)) r w := by
  refine h.step (AG.put (by unfold AK; omega) (by omega)) (BG.put (by unfold BK; omega)) (h.mc.to (zu_ne (by omega)) (zu_ne (by omega))) (h.mh.to (zu_ne (by omega)) (zu_ne (by omega)) (zu_ne (by omega)) (zu_ne (by omega)) (zu_ne (by omega)) (zu_ne (by omega))) ?_ (h.ms.to (zu_ne (by omega)) (zu_ne (by omega)) (zu_ne (by omega)) (zu_ne (by omega)))
  intro j p q
  have c := h.mp j p q
  by_cases e : j = i
  · subst e
    refine ⟨by rw [zu_ne (by omega), zu_ne (by omega)]; exact c.1, by rw [zu_ne (by omega), zu_ne (by omega)]; exact c.2.1, by rw [zu_at, zu_at], by rw [zu_ne (by omega), zu_ne (by omega)]; exact c.2.2.2.1, by rw [zu_ne (by omega)]; exact c.2.2.2.2.1, by rw [zu_ne (by omega)]; exact c.2.2.2.2.2.1, by rw [zu_at]; exact hv, by rw [zu_ne (by omega)]; exact c.2.2.2.2.2.2.2⟩
  · refine ⟨by rw [zu_ne (by omega), zu_ne (by omega)]; exact c.1, by rw [zu_ne (by omega), zu_ne (by omega)]; exact c.2.1, by rw [zu_pl e, zu_pl e]; exact c.2.2.1, by rw [zu_ne (by omega), zu_ne (by omega)]; exact c.2.2.2.1, by rw [zu_ne (by omega)]; exact c.2.2.2.2.1, by rw [zu_ne (by omega)]; exact c.2.2.2.2.2.1, by rw [zu_pl e]; exact c.2.2.2.2.2.2.1, by rw [zu_ne (by omega)]; exact c.2.2.2.2.2.2.2⟩
def PF (r : Int) (S S2 : Sg) : Prop := ∀ (g : Nat) (r' k : Int), ¬ (g = 0 ∧ r' = r ∧ k = 14) → S2 g r' k = S g r' k
def QF (w : Int) (T T2 : Sg) : Prop := ∀ (g : Nat) (r' k : Int), ¬ (g = 5 ∧ r' = w ∧ k = 8) → T2 g r' k = T g r' k
theorem PF.ag {r : Int} {S S2 : Sg} (h : PF r S S2) : AG r S S2 := ⟨fun g r' k q => h g r' k (fun e => q (by unfold AK; omega)), by rw [h 0 r 0 (by omega)], by rw [h 0 r 0 (by omega)]⟩
theorem QF.bg {w : Int} {T T2 : Sg} (h : QF w T T2) : BG w T T2 := fun g r' k j q => by rw [h g r' k (fun e => q (by unfold BK; omega))]
theorem w_clear {r w N x2 x1 : Int} : ∀ (c n n2 : Nat) (i : Int) (S T : Sg), 0 ≤ i → i + c = N → N ≤ 40 → S 0 r 6 0 = N → c < n → c < n2 → Rw S T r w → ∃ S2 T2 : Sg, zf_A_work_2 r n x2 i S = zf_A_work_31 r 4096 x2 0 S2 ∧ zf_W_workNow_7 w n2 x1 i T = zf_W_workNow_31 w 4096 x1 0 T2 ∧ Rw S2 T2 r w ∧ PF r S S2 ∧ QF w T T2
  | 0, n + 1, n2 + 1, i, S, T, hi, hc, h40, hN, _, _, h => by
    have hn := h.1.2.2.1.1
    rw [zf_A_work_2, if_pos (show S 0 r 6 0 ≤ i by omega), zf_W_workNow_7, if_pos (show T 5 w 0 1 ≤ i by omega)]
    exact ⟨S, T, rfl, rfl, h, fun _ _ _ _ => rfl, fun _ _ _ _ => rfl⟩
  | c + 1, n + 1, n2 + 1, i, S, T, hi, hc, h40, hN, h1, h2, h => by
    have hn := h.1.2.2.1.1
    have hx : 0 ≤ i ∧ i < 40 := by omega
    have e := h.post (i := i) (v := -1) (by decide)
    rw [show pv (-1) = -2 from rfl] at e
    obtain ⟨S2, T2, k1, k2, k3, k4, k5⟩ := w_clear (x2 := x2) (x1 := x1) c n n2 (i + 1) _ _ (by omega) (by omega) h40 (by rw [zu_ne (by omega)]; exact hN) (by omega) (by omega) e
    refine ⟨S2, T2, ?_, ?_, k3, fun g r' k q => by rw [k4 g r' k q, zu_ne q], fun g r' k q => by rw [k5 g r' k q, zu_ne q]⟩
    · rw [zf_A_work_2, if_neg (show ¬ S 0 r 6 0 ≤ i by omega), zck_b hx, zlt_v, zlt_v, zw_in (by omega) (by omega)]
      exact k1
    · rw [zf_W_workNow_7, if_neg (show ¬ T 5 w 0 1 ≤ i by omega), zck_b hx, zlt_v, zlt_v, zw_in (by omega) (by omega)]
      exact k2
theorem ite_bit {α : Type} {M x : Nat} (hM : M < 1099511627776) (hx : x < 63) (A B : α) : (if zcmp (zlnd (zlsr (M : Int) (x : Int)) 1) 1 = 0 then A else B) = if M.testBit x then A else B := by
  by_cases h : M.testBit x
  · rw [if_pos h]
    refine if_pos ?_
    rw [zcmp_0, zlbit_n (by omega) hx, if_pos h]
  · rw [if_neg h]
    refine if_neg ?_
    rw [zcmp_0, zlbit_n (by omega) hx, if_neg h]
    decide
theorem w_assign0 {w N x1 p : Int} (qm : Int → Int → Sg → Option (Int × Sg)) (hp : 0 ≤ p ∧ p < 8) {T : Sg} (h0 : T 21 w 0 p = 0) (hT : T 5 w 0 1 = N) (h40 : N ≤ 40) : ∀ (c n2 x : Nat), (x : Int) + c = N → c < n2 → ∃ n3 : Nat, zf_W_workNow_41 w qm n2 x1 p (x : Int) T = zf_W_workNow_41 w qm (n3 + 1) x1 p N T
  | 0, n2 + 1, x, hc, _ => ⟨n2, by rw [show (x : Int) = N by omega]⟩
  | c + 1, n2 + 1, x, hc, h2 => by
    obtain ⟨n3, k⟩ := w_assign0 (x1 := x1) qm hp h0 hT h40 c n2 (x + 1) (by omega) (by omega)
    refine ⟨n3, ?_⟩
    have h0' : T 21 w 0 p = ((0 : Nat) : Int) := h0
    rw [← k, zf_W_workNow_41, if_neg (show ¬ T 5 w 0 1 ≤ (x : Int) by omega), zck_b hp, h0', ite_bit (by decide) (by omega), if_neg (by rw [Nat.zero_testBit]; decide)]
    unfold zf_W_workNow_71
    rw [zlt_v, zw1 (by omega)]
theorem w_assign {r w N x1 x2 p : Int} {M : Nat} (qc qm : Int → Int → Sg → Option (Int × Sg)) (hM : M < 1099511627776) (hM0 : M ≠ 0) (hp : 0 ≤ p ∧ p < 8) : ∀ (c n n2 x : Nat) (S T : Sg), (x : Int) + c = N → N ≤ 40 → S 0 r 6 0 = N → c < n → c < n2 → T 21 w 0 p = (M : Int) → Rw S T r w → ∃ (S2 T2 : Sg) (n3 : Nat), zf_A_work_56 r qc n x2 p (M : Int) (x : Int) S = zf_A_work_104 r qc x2 p (M : Int) S2 ∧ zf_W_workNow_41 w qm n2 x1 p (x : Int) T = zf_W_workNow_41 w qm (n3 + 1) x1 p N T2 ∧ Rw S2 T2 r w ∧ PF r S S2 ∧ QF w T T2
  | 0, n + 1, n2 + 1, x, S, T, hc, h40, hN, _, _, hT, h => by
    rw [zf_A_work_56, if_pos (show S 0 r 6 0 ≤ (x : Int) by omega)]
    exact ⟨S, T, n2, rfl, by rw [show (x : Int) = N by omega], h, fun _ _ _ _ => rfl, fun _ _ _ _ => rfl⟩
  | c + 1, n + 1, n2 + 1, x, S, T, hc, h40, hN, h1, h2, hT, h => by
    have hn := h.1.2.2.1.1
    have hx : 0 ≤ (x : Int) ∧ (x : Int) < 40 := by omega
    have eC : zf_A_work_56 r qc (n + 1) x2 p (M : Int) (x : Int) S = (if M.testBit x then zf_A_work_98 r qc (zf_A_work_56 r qc n) x2 p (M : Int) (x : Int) (zu S 0 r 14 (x : Int) p) else zf_A_work_98 r qc (zf_A_work_56 r qc n) x2 p (M : Int) (x : Int) S) := by
      rw [zf_A_work_56, if_neg (show ¬ S 0 r 6 0 ≤ (x : Int) by omega), if_neg (show ¬ zcmp (M : Int) 0 = 0 by rw [zcmp_0]; omega), ite_bit hM (by omega), zck_b hx] <;> rfl
    have eM : zf_W_workNow_41 w qm (n2 + 1) x1 p (x : Int) T = (if M.testBit x then zf_W_workNow_71 w qm (zf_W_workNow_41 w qm n2) x1 p (x : Int) (zu T 5 w 8 (x : Int) p) else zf_W_workNow_71 w qm (zf_W_workNow_41 w qm n2) x1 p (x : Int) T) := by
      rw [zf_W_workNow_41, if_neg (show ¬ T 5 w 0 1 ≤ (x : Int) by omega), zck_b hp, hT, ite_bit hM (by omega), zck_b hx] <;> rfl
    rw [eC, eM]
    have go : ∀ S' T' : Sg, Rw S' T' r w → PF r S S' → QF w T T' → ∃ (S2 T2 : Sg) (n3 : Nat), zf_A_work_98 r qc (zf_A_work_56 r qc n) x2 p (M : Int) (x : Int) S' = zf_A_work_104 r qc x2 p (M : Int) S2 ∧ zf_W_workNow_71 w qm (zf_W_workNow_41 w qm n2) x1 p (x : Int) T' = zf_W_workNow_41 w qm (n3 + 1) x1 p N T2 ∧ Rw S2 T2 r w ∧ PF r S S2 ∧ QF w T T2 := by
      intro S' T' h' a b
      obtain ⟨S2, T2, n3, k1, k2, k3, k4, k5⟩ := w_assign (x1 := x1) (x2 := x2) qc qm hM hM0 hp c n n2 (x + 1) S' T' (by omega) h40 (by rw [a 0 r 6 (by omega)]; exact hN) (by omega) (by omega) (by rw [b 21 w 0 (by omega)]; exact hT) h'
      refine ⟨S2, T2, n3, ?_, ?_, k3, fun g r' k q => (k4 g r' k q).trans (a g r' k q), fun g r' k q => (k5 g r' k q).trans (b g r' k q)⟩
      · unfold zf_A_work_98
        rw [zlt_v, zw1 (by omega)]
        exact k1
      · unfold zf_W_workNow_71
        rw [zlt_v, zw1 (by omega)]
        exact k2
    by_cases hb : M.testBit x
    · rw [if_pos hb, if_pos hb]
      have e := h.post (i := (x : Int)) (v := p) (by omega)
      rw [show pv p = p from if_neg (by omega)] at e
      exact go _ _ e (fun g r' k q => zu_ne q) (fun g r' k q => zu_ne q)
    · rw [if_neg hb, if_neg hb]
      exact go S T h (fun _ _ _ _ => rfl) (fun _ _ _ _ => rfl)
/-- the sky of a week, wherever the reference's sky rows are as they were -/
theorem sky_all {S T : Sg} {r w k x : Int} (hk : 0 ≤ k ∧ k < 2) (h : Rw S T r w) (hz : ∀ i, zn (S 14 r k i)) (hx : 0 ≤ x ∧ x ≤ 400) : ∃ v, zf_Y_at r k x S = some (v, S) ∧ (0 ≤ v ∧ v ≤ 2147483647) ∧ ∀ T', BG w T T' → zf_W_skyOf w k x T' = some (v, T') := by
  obtain ⟨v, e1, e2, e3⟩ := pf_sky hk (h.rk hk.1 hk.2) hz hx
  refine ⟨v, e1, e3, fun T' hb => ?_⟩
  have h32 : T' 5 w 32 = T 5 w 32 := by funext j; exact hb 5 w 32 j (by unfold BK; omega)
  have h33 : T' 5 w 33 = T 5 w 33 := by funext j; exact hb 5 w 33 j (by unfold BK; omega)
  have h7 : T' 7 w k = T 7 w k := by funext j; exact hb 7 w k j (by unfold BK; omega)
  have hr : Rk2 S T' r w k := by
    have c := h.rk hk.1 hk.2
    unfold Rk2 at c ⊢
    rw [h32, h33, h7]
    exact c
  obtain ⟨v', f1, f2, -⟩ := pf_sky hk hr hz hx
  rw [e1] at f1
  injection f1 with f1
  injection f1 with f1 f3
  rw [f1]
  exact f2
/-- post after post -/
theorem w_posts {r w NP N x1 calm v : Int} : ∀ (c n n2 : Nat) (i : Int) (S T : Sg), 0 ≤ i → i + c = NP → NP ≤ 8 → S 0 r 26 0 = NP → S 0 r 6 0 = N → N ≤ 40 → c < n → c < n2 → (calm = 0 ↔ S 0 r 1 1 < v) → (∀ j, 0 ≤ j → j < NP → ∃ M : Nat, S 20 0 0 j = (M : Int) ∧ T 21 w 0 j = (M : Int) ∧ M < 1099511627776 ∧ T 5 w 37 j = (if M = 0 then 0 else 1)) → (∀ T', BG w T T' → zf_W_skyOf w 0 (S 0 r 0 0) T' = some (v, T')) → Rw S T r w → ∃ S2 T2 : Sg, zf_A_work_31 r n calm i S = some (0, S2) ∧ zf_W_workNow_31 w n2 x1 i T = some (x1, T2) ∧ Rw S2 T2 r w ∧ AG r S S2 ∧ BG w T T2 ∧ S2 3 = S 3 ∧ S2 0 r 11 = S 0 r 11
  | 0, n + 1, n2 + 1, i, S, T, hi, hc, h8, hNP, hN, h40, _, _, hcm, hcr, hsk, h => by
    have hp := h.1.2.2.2.1.1
    rw [zf_A_work_31, if_pos (show S 0 r 26 0 ≤ i by omega), zf_W_workNow_31, if_pos (show T 5 w 0 25 ≤ i by omega)]
    exact ⟨S, T, rfl, rfl, h, AG.refl r S, BG.refl w T, rfl, rfl⟩
  | c + 1, n + 1, n2 + 1, i, S, T, hi, hc, h8, hNP, hN, h40, h1, h2, hcm, hcr, hsk, h => by
    have hp := h.1.2.2.2.1.1
    have hn := h.1.2.2.1.1
    have hn2 := h.1.2.2.1.2.1
    have hi8 : 0 ≤ i ∧ i < 8 := by omega
    obtain ⟨M, m1, m2, m3, m4⟩ := hcr i hi (by omega)
    have go : ∀ S' T' : Sg, Rw S' T' r w → AG r S S' → BG w T T' → S' 3 = S 3 → S' 20 = S 20 → S' 0 r 11 = S 0 r 11 → ∃ S2 T2 : Sg, zf_A_work_142 r (zf_A_work_31 r n) calm i S' = some (0, S2) ∧ zf_W_workNow_125 w (zf_W_workNow_31 w n2) x1 i T' = some (x1, T2) ∧ Rw S2 T2 r w ∧ AG r S S2 ∧ BG w T T2 ∧ S2 3 = S 3 ∧ S2 0 r 11 = S 0 r 11 := by
      intro S' T' h' a b a3 a20 a11
      have a26 : S' 0 r 26 = S 0 r 26 := a.1 0 r 26 (by unfold AK; omega)
      have a6 : S' 0 r 6 = S 0 r 6 := a.1 0 r 6 (by unfold AK; omega)
      have a1 : S' 0 r 1 = S 0 r 1 := a.1 0 r 1 (by unfold AK; omega)
      obtain ⟨S2, T2, k1, k2, k3, k4, k5, k6, k7⟩ := w_posts (x1 := x1) (calm := calm) (v := v) c n n2 (i + 1) S' T' (by omega) (by omega) h8 (by rw [a26]; exact hNP) (by rw [a6]; exact hN) h40 (by omega) (by omega) (by rw [a1]; exact hcm) (fun j p q => by
        rw [a20, b 21 w 0 j (by unfold BK; omega), b 5 w 37 j (by unfold BK; omega)]
        exact hcr j p q) (fun U hU => by rw [a.2.2]; exact hsk U (b.trans hU)) h'
      refine ⟨S2, T2, ?_, ?_, k3, a.trans k4, b.trans k5, k6.trans a3, k7.trans a11⟩
      · unfold zf_A_work_142
        rw [zlt_v, zw_in (by omega) (by omega)]
        exact k1
      · unfold zf_W_workNow_125
        rw [zlt_v, zw_in (by omega) (by omega)]
        exact k2
    rw [zf_A_work_31, if_neg (show ¬ S 0 r 26 0 ≤ i by omega), zck_b hi8, zlt_v, m1, zf_W_workNow_31, if_neg (show ¬ T 5 w 0 25 ≤ i by omega)]
    by_cases hM : M = 0
    · subst hM
      obtain ⟨n3, k⟩ := w_assign0 (w := w) (N := N) (x1 := x1) (p := i) (zf_W_workNow_31 w n2) hi8 (T := T) m2 (by omega) h40 (S 0 r 6 0).toNat 4096 0 (by omega) (by omega)
      rw [show ((0 : Nat) : Int) = 0 from rfl] at k
      rw [k, zf_W_workNow_41, if_pos (show T 5 w 0 1 ≤ N by omega), zck_b hi8, m4, if_pos rfl, if_pos rfl]
      have eC : zf_A_work_56 r (zf_A_work_31 r n) 4096 calm i ((0 : Nat) : Int) 0 S = zf_A_work_142 r (zf_A_work_31 r n) calm i S := by
        rw [zf_A_work_56]
        by_cases q : S 0 r 6 0 ≤ 0
        · rw [if_pos q]
          unfold zf_A_work_104
          rw [if_pos (by rw [zcmp_0]; rfl)]
        · rw [if_neg q, if_pos (by rw [zcmp_0]; rfl)]
          unfold zf_A_work_104
          rw [if_pos (by rw [zcmp_0]; rfl)]
      rw [eC]
      exact go S T h (AG.refl r S) (BG.refl w T) rfl rfl rfl
    · obtain ⟨S1, T1, n3, k1, k2, k3, k4, k5⟩ := w_assign (r := r) (w := w) (N := N) (x1 := x1) (x2 := calm) (p := i) (zf_A_work_31 r n) (zf_W_workNow_31 w n2) m3 hM hi8 (S 0 r 6 0).toNat 4096 4096 0 S T (by omega) h40 hN (by omega) (by omega) m2 h
      rw [show ((0 : Nat) : Int) = 0 from rfl] at k1 k2
      have t1 : T1 5 w 0 1 = N := by rw [k5 5 w 0 (by omega)]; omega
      have t37 : T1 5 w 37 i = 1 := by rw [k5 5 w 37 (by omega), m4, if_neg hM]
      have q := k3.1.2.2.2.1.2.2 i hi (by rw [k4 0 r 26 (by omega)]; omega)
      have t23 : T1 5 w 23 i = S1 0 r 29 i := q.2.2.1
      have a3 : S1 3 = S 3 := by funext r' k; exact k4 3 r' k (by omega)
      have a20 : S1 20 = S 20 := by funext r' k; exact k4 20 r' k (by omega)
      have a11 : S1 0 r 11 = S 0 r 11 := k4 0 r 11 (by omega)
      have a1 : S1 0 r 1 = S 0 r 1 := k4 0 r 1 (by omega)
      obtain ⟨-, -, -, -, -, -, -, -, -, -, -, -, -, -, -, c16, -, -, r2, -⟩ := k3.1.1
      have t301 : T1 5 w 30 1 = S 0 r 1 1 := by rw [c16 1 (by decide) (by decide), a1]
      have t302 : T1 5 w 30 2 = S1 0 r 1 2 := c16 2 (by decide) (by decide)
      have tw : T1 5 w 0 0 = S 0 r 0 0 := by rw [k3.mc.1, k4 0 r 0 (by omega)]
      rw [k1, k2, zf_W_workNow_41, if_pos (show T1 5 w 0 1 ≤ N by omega), zck_b hi8, t37, if_neg n10, t23]
      unfold zf_A_work_104
      rw [if_neg (show ¬ zcmp (M : Int) 0 = 0 by rw [zcmp_0]; omega), zck_b hi8]
      by_cases h3 : S1 0 r 29 i = 3
      · rw [if_pos h3, if_pos h3, tw, hsk T1 k5.bg, zbd_s, t301]
        by_cases hc0 : calm = 0
        · rw [if_pos hc0, if_pos (hcm.mp hc0)]
          exact go S1 T1 k3 k4.ag k5.bg a3 a20 a11
        · rw [if_neg hc0, if_neg (fun e => hc0 (hcm.mpr e))]
          have hf := k3.ms.1 0 (by decide) (by decide)
          unfold zf_T_gain zf_W_stored
          rw [zck_b (by decide), zck_b (by decide), zlt_v, zlt_v, zbd_s, zbd_s, t302, hf.1, zw_in (x := S1 0 r 32 0 + S1 0 r 1 2) (by omega) (by omega)]
          refine go _ _ (k3.stock (i := 0) (v := min 9999 (S1 0 r 32 0 + S1 0 r 1 2)) (by omega)) (k4.ag.trans (AG.put (by unfold AK; omega) (by omega))) (k5.bg.trans (BG.put (by unfold BK; omega))) ?_ ?_ ?_
          · rw [← a3]; funext r' k; rw [zu_ne (by omega)]
          · rw [← a20]; funext r' k; rw [zu_ne (by omega)]
          · rw [← a11]; rw [zu_ne (by omega)]
      · rw [if_neg h3, if_neg h3]
        exact go S1 T1 k3 k4.ag k5.bg a3 a20 a11
