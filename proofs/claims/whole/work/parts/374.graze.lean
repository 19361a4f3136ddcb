/-! ===== a week: cattle graze ===== -/
theorem Rw.cattle {S T : Sg} {r w i v : Int} (h : Rw S T r w) (hv : 0 ≤ v ∧ v ≤ 20) : Rw (zu S 0 r 2 i v) (zu T 5 w 10 i v) r w := by
  refine h.step (AG.put (by unfold AK; omega) (by omega)) (BG.put (by unfold BK; omega)) (h.mc.to (zu_ne (by omega)) (zu_ne (by omega))) ?_ (h.mp.to (zu_ne (by omega)) (zu_ne (by omega)) (zu_ne (by omega)) (zu_ne (by omega)) (zu_ne (by omega)) (zu_ne (by omega)) (zu_ne (by omega)) (zu_ne (by omega))) (h.ms.to (zu_ne (by omega)) (zu_ne (by omega)) (zu_ne (by omega)) (zu_ne (by omega)))
  intro j p q
  have c := h.mh j p q
  by_cases e : j = i
  · subst e
    exact ⟨by rw [zu_at, zu_at], by rw [zu_ne (by omega), zu_ne (by omega)]; exact c.2.1, by rw [zu_ne (by omega), zu_ne (by omega)]; exact c.2.2.1, by rw [zu_at]; exact hv, by rw [zu_ne (by omega)]; exact c.2.2.2.2.1, by rw [zu_ne (by omega)]; exact c.2.2.2.2.2⟩
  · exact ⟨by rw [zu_pl e, zu_pl e]; exact c.1, by rw [zu_ne (by omega), zu_ne (by omega)]; exact c.2.1, by rw [zu_ne (by omega), zu_ne (by omega)]; exact c.2.2.1, by rw [zu_pl e]; exact c.2.2.2.1, by rw [zu_ne (by omega)]; exact c.2.2.2.2.1, by rw [zu_ne (by omega)]; exact c.2.2.2.2.2⟩
theorem Rw.stock {S T : Sg} {r w i v : Int} (h : Rw S T r w) (hv : 0 ≤ v ∧ v ≤ 9999) : Rw (zu S 0 r 32 i v) (zu T 5 w 25 i v) r w := by
  refine h.step (AG.put (by unfold AK; omega) (by omega)) (BG.put (by unfold BK; omega)) (h.mc.to (zu_ne (by omega)) (zu_ne (by omega))) (h.mh.to (zu_ne (by omega)) (zu_ne (by omega)) (zu_ne (by omega)) (zu_ne (by omega)) (zu_ne (by omega)) (zu_ne (by omega))) (h.mp.to (zu_ne (by omega)) (zu_ne (by omega)) (zu_ne (by omega)) (zu_ne (by omega)) (zu_ne (by omega)) (zu_ne (by omega)) (zu_ne (by omega)) (zu_ne (by omega))) ⟨fun j p q => ?_, fun j p q => ?_⟩
  · have c := h.ms.1 j p q
    by_cases e : j = i
    · subst e
      exact ⟨by rw [zu_at, zu_at], by rw [zu_at]; exact hv⟩
    · exact ⟨by rw [zu_pl e, zu_pl e]; exact c.1, by rw [zu_pl e]; exact c.2⟩
  · have c := h.ms.2 j p q
    rw [zu_ne (by omega), zu_ne (by omega)]
    exact c
/-- what one house's grazing changes at the reference -/
def GF (w j : Int) (T T2 : Sg) : Prop := ∀ (g : Nat) (r' k i : Int), ¬ (g = 5 ∧ r' = w ∧ (k = 10 ∧ i = j ∨ k = 0 ∧ i = 15 ∨ k = 25 ∧ i = 2)) → T2 g r' k i = T g r' k i
theorem GF.eq {w j a b c : Int} {T T2 : Sg} (h : GF w j T T2) (h1 : T2 5 w 0 15 = a) (h2 : T2 5 w 25 2 = b) (h3 : T2 5 w 10 j = c) : T2 = zu (zu (zu T 5 w 0 15 a) 5 w 25 2 b) 5 w 10 j c := by
  funext g r' k i
  by_cases e3 : g = 5 ∧ r' = w ∧ k = 10 ∧ i = j
  · obtain ⟨q1, q2, q3, q4⟩ := e3
    subst q1 q2 q3 q4
    rw [zu_at, h3]
  · rw [show zu (zu (zu T 5 w 0 15 a) 5 w 25 2 b) 5 w 10 j c g r' k i = zu (zu T 5 w 0 15 a) 5 w 25 2 b g r' k i from if_neg e3]
    by_cases e2 : g = 5 ∧ r' = w ∧ k = 25 ∧ i = 2
    · obtain ⟨q1, q2, q3, q4⟩ := e2
      subst q1 q2 q3 q4
      rw [zu_at, h2]
    · rw [show zu (zu T 5 w 0 15 a) 5 w 25 2 b g r' k i = zu T 5 w 0 15 a g r' k i from if_neg e2]
      by_cases e1 : g = 5 ∧ r' = w ∧ k = 0 ∧ i = 15
      · obtain ⟨q1, q2, q3, q4⟩ := e1
        subst q1 q2 q3 q4
        rw [zu_at, h1]
      · rw [show zu T 5 w 0 15 a g r' k i = T g r' k i from if_neg e1]
        exact h g r' k i (by omega)
/-- the reference: one beast after the other -/
theorem w_graze12 {w j K : Int} (q2 : Int → Sg → Option (Int × Sg)) (hj : 0 ≤ j ∧ j < 12) : ∀ (c n : Nat) (x2 x3 G F : Int) (T : Sg), x3 + c = K → 0 ≤ x2 → x2 ≤ x3 → K ≤ 20 → T 5 w 10 j = K → T 5 w 0 15 = G → T 5 w 25 2 = F → (0 ≤ G ∧ G ≤ 500) → (0 ≤ F ∧ F ≤ 9999) → c < n → ∃ T2, zf_W_graze_12 w q2 n j x2 x3 T = q2 (j + 1) T2 ∧ GF w j T T2 ∧ T2 5 w 0 15 = G - min (c : Int) G ∧ T2 5 w 25 2 = F - min ((c : Int) - min (c : Int) G) F ∧ T2 5 w 10 j = K - (x2 + ((c : Int) - min (c : Int) G - min ((c : Int) - min (c : Int) G) F))
  | 0, n + 1, x2, x3, G, F, T, hc, h0, h1, hK, e10, eG, eF, hG, hF, _ => by
    rw [zf_W_graze_12, zck_b hj, if_pos (by omega), zlt_v, zlt_v, e10, zw_in (x := K - x2) (by omega) (by omega), zw_in (x := j + 1) (by omega) (by omega)]
    refine ⟨_, rfl, fun g r' k i q => if_neg (by omega), ?_, ?_, ?_⟩
    · rw [zu_ne (by omega), eG]; omega
    · rw [zu_ne (by omega), eF]; omega
    · rw [zu_at]; omega
  | c + 1, n + 1, x2, x3, G, F, T, hc, h0, h1, hK, e10, eG, eF, hG, hF, hn => by
    rw [zf_W_graze_12, zck_b hj, if_neg (by omega)]
    unfold zf_W_graze_67
    simp only [zlt_v]
    rw [zw_in (x := x3 + 1) (by omega) (by omega), eG, eF]
    by_cases g0 : G ≤ 0
    · rw [if_pos g0]
      by_cases f0 : F ≤ 0
      · rw [if_pos f0, zw_in (x := x2 + 1) (by omega) (by omega)]
        obtain ⟨T2, k1, k2, k3, k4, k5⟩ := w_graze12 q2 hj c n (x2 + 1) (x3 + 1) G F T (by omega) (by omega) (by omega) hK e10 eG eF hG hF (by omega)
        exact ⟨T2, k1, k2, by rw [k3]; omega, by rw [k4]; omega, by rw [k5]; omega⟩
      · rw [if_neg f0, zw_in (x := F - 1) (by omega) (by omega)]
        obtain ⟨T2, k1, k2, k3, k4, k5⟩ := w_graze12 q2 hj c n x2 (x3 + 1) G (F - 1) (zu T 5 w 25 2 (F - 1)) (by omega) (by omega) (by omega) hK (by rw [zu_ne (by omega)]; exact e10) (by rw [zu_ne (by omega)]; exact eG) (by rw [zu_at]) hG (by omega) (by omega)
        refine ⟨T2, k1, fun g r' k i q => ?_, by rw [k3]; omega, by rw [k4]; omega, by rw [k5]; omega⟩
        rw [k2 g r' k i q]
        exact if_neg (by omega)
    · rw [if_neg g0, zw_in (x := G - 1) (by omega) (by omega)]
      obtain ⟨T2, k1, k2, k3, k4, k5⟩ := w_graze12 q2 hj c n x2 (x3 + 1) (G - 1) F (zu T 5 w 0 15 (G - 1)) (by omega) (by omega) (by omega) hK (by rw [zu_ne (by omega)]; exact e10) (by rw [zu_at]) (by rw [zu_ne (by omega)]; exact eF) (by omega) hF (by omega)
      refine ⟨T2, k1, fun g r' k i q => ?_, by rw [k3]; omega, by rw [k4]; omega, by rw [k5]; omega⟩
      rw [k2 g r' k i q]
      exact if_neg (by omega)
theorem w_graze {r w : Int} : ∀ (c n n2 : Nat) (j : Int) (S T : Sg), 0 ≤ j → j + c = 12 → c < n → c < n2 → Rw S T r w → ∃ S2 T2 : Sg, zf_A_graze_10 r n j S = some (0, S2) ∧ zf_W_graze_2 w n2 j T = some (0, T2) ∧ Rw S2 T2 r w ∧ AG r S S2 ∧ BG w T T2 ∧ S2 3 = S 3 ∧ S2 0 r 11 = S 0 r 11
  | 0, n + 1, n2 + 1, j, S, T, hj, hc, _, _, h => by
    rw [zf_A_graze_10, if_pos (show (12 : Int) ≤ j by omega), zf_W_graze_2, if_pos (show (12 : Int) ≤ j by omega)]
    exact ⟨S, T, rfl, rfl, h, AG.refl r S, BG.refl w T, rfl, rfl⟩
  | c + 1, n + 1, n2 + 1, j, S, T, hj, hc, h1, h2, h => by
    have hh := h.mh j hj (by omega)
    have hj12 : 0 ≤ j ∧ j < 12 := by omega
    have e10 := hh.1
    have r2 := hh.2.2.2.1
    have eG := h.mc.2.2.2.2.1
    have rG := h.mc.2.2.2.2.2.2.2.2.1
    have hf := h.ms.1 2 (by decide) (by decide)
    have eF := hf.1
    have rF := hf.2
    obtain ⟨K, hK⟩ : ∃ K : Nat, S 0 r 2 j = (K : Int) := ⟨(S 0 r 2 j).toNat, by omega⟩
    obtain ⟨T2, k1, k2, k3, k4, k5⟩ := w_graze12 (w := w) (K := S 0 r 2 j) (zf_W_graze_2 w n2) hj12 K 4096 0 0 (S 0 r 0 4) (S 0 r 32 2) T (by omega) (by decide) (by decide) r2.2 e10 eG eF rG rF (by omega)
    rw [zf_A_graze_10, if_neg (show ¬ (12 : Int) ≤ j by omega), zf_W_graze_2, if_neg (show ¬ (12 : Int) ≤ j by omega), k1, zck_b hj12]
    simp only [zlt_v]
    rw [← hK] at k3 k4 k5
    rw [show zu S 0 r 0 4 (zw (S 0 r 0 4 - min (S 0 r 2 j) (S 0 r 0 4))) 0 r 2 j = S 0 r 2 j by rw [zu_ne (by omega)], show zu S 0 r 0 4 (zw (S 0 r 0 4 - min (S 0 r 2 j) (S 0 r 0 4))) 0 r 32 2 = S 0 r 32 2 by rw [zu_ne (by omega)], zw_in (x := S 0 r 0 4 - min (S 0 r 2 j) (S 0 r 0 4)) (by omega) (by omega), zw_in (x := S 0 r 2 j - min (S 0 r 2 j) (S 0 r 0 4)) (by omega) (by omega), zw_in (x := S 0 r 32 2 - min (S 0 r 2 j - min (S 0 r 2 j) (S 0 r 0 4)) (S 0 r 32 2)) (by omega) (by omega), zw_in (x := min (S 0 r 2 j) (S 0 r 0 4) + min (S 0 r 2 j - min (S 0 r 2 j) (S 0 r 0 4)) (S 0 r 32 2)) (by omega) (by omega), zw_in (x := j + 1) (by omega) (by omega)]
    have k5' : T2 5 w 10 j = min (S 0 r 2 j) (S 0 r 0 4) + min (S 0 r 2 j - min (S 0 r 2 j) (S 0 r 0 4)) (S 0 r 32 2) := by rw [k5]; omega
    have eT := k2.eq k3 k4 k5'
    have hR := ((h.grass (v := S 0 r 0 4 - min (S 0 r 2 j) (S 0 r 0 4)) (by omega)).stock (i := 2) (v := S 0 r 32 2 - min (S 0 r 2 j - min (S 0 r 2 j) (S 0 r 0 4)) (S 0 r 32 2)) (by omega)).cattle (i := j) (v := min (S 0 r 2 j) (S 0 r 0 4) + min (S 0 r 2 j - min (S 0 r 2 j) (S 0 r 0 4)) (S 0 r 32 2)) (by omega)
    rw [← eT] at hR
    obtain ⟨S3, T3, l1, l2, l3, l4, l5, l6, l7⟩ := w_graze c n n2 (j + 1) _ T2 (by omega) (by omega) (by omega) (by omega) hR
    refine ⟨S3, T3, l1, l2, l3, (((AG.put (by unfold AK; omega) (by omega)).trans (AG.put (by unfold AK; omega) (by omega))).trans (AG.put (by unfold AK; omega) (by omega))).trans l4, BG.trans (fun g r' k i q => k2 g r' k i (fun e => q (by unfold BK; omega))) l5, ?_, ?_⟩
    · rw [l6]
      funext r' k
      rw [zu_ne (by omega), zu_ne (by omega), zu_ne (by omega)]
    · rw [l7, zu_ne (by omega), zu_ne (by omega), zu_ne (by omega)]
theorem tw_graze {S T : Sg} {r w : Int} (h : Rw S T r w) : ∃ S2 T2 : Sg, zf_A_graze r S = some (0, S2) ∧ zf_W_graze w T = some (0, T2) ∧ Rw S2 T2 r w ∧ AG r S S2 ∧ BG w T T2 ∧ S2 3 = S 3 ∧ S2 0 r 11 = S 0 r 11 := w_graze 12 4096 4096 0 S T (by decide) (by decide) (by decide) (by decide) h
