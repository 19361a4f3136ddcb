/-! ===== a week: enough for all ===== -/
theorem EF.bg {w : Int} {T T2 : Sg} (h : EF w T T2) : BG w T T2 := fun g r' k j q => h g r' k j (fun e => q (by unfold BK; omega))
theorem Mc.pl {S T S2 T2 : Sg} {r w : Int} (h : Mc S T r w) (h1 : S2 0 r 0 = S 0 r 0) (h2 : ∀ i, i < 47 → T2 5 w 0 i = T 5 w 0 i) : Mc S2 T2 r w := by
  unfold Mc at *
  rw [h1, h2 0 (by decide), h2 38 (by decide), h2 39 (by decide), h2 40 (by decide), h2 15 (by decide), h2 41 (by decide)]
  exact h
/-- after the meal: who is hungry, what is left -/
theorem Rw.meal {S T S2 T2 : Sg} {r w x : Int} (h : Rw S T r w) (hx : 0 ≤ x ∧ x ≤ 9999) (ha : ∀ (g : Nat) (r' k : Int), ¬ (g = 3 ∧ r' = 0 ∧ (7 ≤ k ∧ k ≤ 9 ∨ k = 16 ∨ k = 17)) → ¬ (g = 0 ∧ r' = r ∧ k = 15) → S2 g r' k = zu S 0 r 32 0 x g r' k) (hb : EF w (zu T 5 w 25 0 x) T2) (hh : ∀ j, 0 ≤ j → j < S 0 r 6 0 → T2 5 w 9 j = S2 0 r 15 j ∧ (0 ≤ S2 0 r 15 j ∧ S2 0 r 15 j ≤ 1)) : Rw S2 T2 r w ∧ AG r S S2 ∧ BG w T T2 := by
  have h1 := h.stock (i := 0) (v := x) hx
  have e0 : ∀ k, k ≠ 15 → S2 0 r k = zu S 0 r 32 0 x 0 r k := fun k q => ha 0 r k (by omega) (by omega)
  have aG : AG r (zu S 0 r 32 0 x) S2 := ⟨fun g r' k q => ha g r' k (fun e => q (by unfold AK; omega)) (fun e => q (by unfold AK; omega)), by rw [e0 0 (by decide)], by rw [e0 0 (by decide)]⟩
  have bG : BG w (zu T 5 w 25 0 x) T2 := hb.bg
  have t5 : ∀ k, k ≠ 35 → k ≠ 9 → k ≠ 34 → k ≠ 39 → k ≠ 40 → k ≠ 0 → T2 5 w k = zu T 5 w 25 0 x 5 w k := fun k q1 q2 q3 q4 q5 q6 => by
    funext j
    exact hb 5 w k j (by omega)
  refine ⟨h1.step aG bG (h1.mc.pl (e0 0 (by decide)) (fun i q => hb 5 w 0 i (by omega))) (h1.mh.to (e0 2 (by decide)) (e0 3 (by decide)) (e0 5 (by decide)) (t5 10 (by decide) (by decide) (by decide) (by decide) (by decide) (by decide)) (t5 11 (by decide) (by decide) (by decide) (by decide) (by decide) (by decide)) (t5 13 (by decide) (by decide) (by decide) (by decide) (by decide) (by decide))) ?_ (h1.ms.to (e0 32 (by decide)) (e0 36 (by decide)) (t5 25 (by decide) (by decide) (by decide) (by decide) (by decide) (by decide)) (t5 29 (by decide) (by decide) (by decide) (by decide) (by decide) (by decide))), AG.trans (AG.put (by unfold AK; omega) (by omega)) aG, BG.trans (BG.put (by unfold BK; omega)) bG⟩
  intro j p q
  obtain ⟨d1, d2, d3, d4, d5, d6, d7, d8⟩ := h1.mp j p q
  have n6 : zu S 0 r 32 0 x 0 r 6 = S 0 r 6 := zu_ne (by omega)
  rw [n6] at q
  obtain ⟨y1, y2⟩ := hh j p q
  rw [t5 5 (by decide) (by decide) (by decide) (by decide) (by decide) (by decide), t5 7 (by decide) (by decide) (by decide) (by decide) (by decide) (by decide), t5 8 (by decide) (by decide) (by decide) (by decide) (by decide) (by decide), e0 11 (by decide), e0 13 (by decide), e0 14 (by decide)]
  exact ⟨d1, d2, d3, y1, d5, d6, d7, y2⟩
theorem tw_eatA {S T : Sg} {r w : Int} (h : Rw S T r w) (he : sF (nds S r) 0 (S 0 r 6 0).toNat ≤ S 0 r 32 0) : ∃ S2 T2 : Sg, zf_A_feed r S = some (0, S2) ∧ zf_W_eat w T = some (0, T2) ∧ Rw S2 T2 r w ∧ AG r S S2 ∧ BG w T T2 ∧ S2 3 = S 3 ∧ S2 0 r 11 = S 0 r 11 ∧ T2 5 w 34 0 = 0 := by
  have hn := h.1.2.2.1.2.1
  have hs := h.ms.1 0 (by decide) (by decide)
  have bT := sF_le (f := nds S r) (m := 5) (S 0 r 6 0).toNat 0 (fun j _ _ => nds_in S r j)
  obtain ⟨U, k1, k2, k3⟩ := m_needs h (S 0 r 6 0).toNat 4096 0 0 T (by decide) (by omega) (by omega) (by omega) (EF.refl w T) (fun j a b => absurd b (by omega))
  have k0 := c_needs h (S 0 r 6 0).toNat 4096 0 0 (by decide) (by omega) (by omega) (by omega)
  rw [Int.zero_add] at k0 k1
  generalize sF (nds S r) 0 (S 0 r 6 0).toNat = m at he bT k0 k1
  rw [if_pos he] at k1
  have hm := Rw.meal (S2 := zfl (zu S 0 r 32 0 (S 0 r 32 0 - m)) 0 r 15 0 ((40 : Nat) : Int) 0) (T2 := zu (zu U 5 w 34 0 0) 5 w 25 0 (S 0 r 32 0 - m)) (x := S 0 r 32 0 - m) h (by omega) (fun g r' k q q2 => zfl_ne q2) (fun g r' k j q => by
    simp only [zu]
    by_cases e : g = 5 ∧ r' = w ∧ k = 25 ∧ j = 0
    · rw [if_pos e, if_pos e]
    · rw [if_neg e, if_neg e, if_neg (by omega)]
      exact k2 g r' k j q) (fun j p q => by
    rw [show zfl (zu S 0 r 32 0 (S 0 r 32 0 - m)) 0 r 15 0 ((40 : Nat) : Int) 0 0 r 15 j = 0 from if_pos ⟨rfl, rfl, rfl, by omega, by omega⟩, zu_ne (by omega), zu_ne (by omega)]
    exact ⟨(k3 j p q).1, by decide⟩)
  refine ⟨_, _, ?_, ?_, hm.1, hm.2.1, hm.2.2, ?_, ?_, ?_⟩
  · unfold zf_A_feed zf_P_needOfAll
    rw [k0, zbd_s, if_neg (by omega), zlt_v, zw_in (x := S 0 r 32 0 - m) (by omega) (by omega), pf_fill (by decide), zbd_s]
  · unfold zf_W_eat
    rw [k1]
    unfold zf_W_eat_72
    rw [zck_b (by decide), zlt_v, zu_at, if_pos z00, show zu U 5 w 34 0 0 5 w 25 0 = S 0 r 32 0 by rw [zu_ne (by omega), k2 5 w 25 0 (by omega)]; exact hs.1, zw_in (x := S 0 r 32 0 - m) (by omega) (by omega), zlt_v]
  · funext r' k
    rw [zfl_ne (by omega), zu_ne (by omega)]
  · rw [zfl_ne (by omega), zu_ne (by omega)]
  · rw [zu_ne (by omega), zu_at]
