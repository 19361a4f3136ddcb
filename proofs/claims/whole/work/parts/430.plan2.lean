/-! ===== tries: plan, its loops ===== -/
theorem m_don {S : Sg} {W s bM : Int} (hcr : Rcr S) (hz : Zs S) (hW : S 0 0 0 0 = W) (hW4 : W + 16 ≤ 400) (hN : S 0 0 31 3 ≤ 28) (hs : 0 ≤ s ∧ s ≤ 20) (qm : Int → Int → Int → Sg → Option (Int × Sg)) : ∀ (c n : Nat) (f : Int) (T : Sg), 0 ≤ f → f + c = 11 → c < n → Rw S T 0 0 → ∃ T2, zf_M_plan_53 qm n bM 16 s f T = qm bM 16 (s + 1) T2 ∧ Fm TM T T2
  | 0, n + 1, f, T, hf, hc, _, h => by
    rw [zf_M_plan_53, if_pos (by omega), zlt_v, zw_in (x := s + 1) (by omega) (by omega)]
    exact ⟨T, rfl, Fm.refl _ _⟩
  | c + 1, n + 1, f, T, hf, hc, hn, h => by
    rw [zf_M_plan_53, if_neg (by omega), zlt_v, zw_in (x := s - f) (by omega) (by omega), pf_M_in, zbd_s]
    by_cases q : 0 ≤ s - f ∧ s - f ≤ 10
    · obtain ⟨a, b, S2, T2, -, t2, t3, -, -, -, t4⟩ := tw_lasts (x := f) (y := s - f) h hcr hz hW hW4 hN (by omega) q
      obtain ⟨T3, k1, k2⟩ := m_don (bM := bM) hcr hz hW hW4 hN hs qm c n (f + 1) T2 (by omega) (by omega) (by omega) (h.try (Fm.refl _ _) t4)
      rw [if_pos q, if_neg n10, t2, zbd_s, if_pos (by unfold Las at t3; omega)]
      unfold zf_M_plan_108
      rw [zlt_v, zw_in (x := f + 1) (by omega) (by omega)]
      exact ⟨T3, k1, t4.trans k2⟩
    · obtain ⟨T3, k1, k2⟩ := m_don (bM := bM) hcr hz hW hW4 hN hs qm c n (f + 1) T (by omega) (by omega) (by omega) h
      rw [if_neg q, if_pos rfl]
      unfold zf_M_plan_108
      rw [zlt_v, zw_in (x := f + 1) (by omega) (by omega)]
      exact ⟨T3, k1, k2⟩
theorem m_don2 {S : Sg} {W bM : Int} (hcr : Rcr S) (hz : Zs S) (hW : S 0 0 0 0 = W) (hW4 : W + 16 ≤ 400) (hN : S 0 0 31 3 ≤ 28) : ∀ (c n : Nat) (s : Int) (T : Sg), 0 ≤ s → s + c = 21 → c < n → Rw S T 0 0 → ∃ T2, zf_M_plan_44 n bM 16 s T = some (bM, T2) ∧ Fm TM T T2
  | 0, n + 1, s, T, hf, hc, _, h => by
    rw [zf_M_plan_44, if_pos (by omega)]
    exact ⟨T, rfl, Fm.refl _ _⟩
  | c + 1, n + 1, s, T, hf, hc, hn, h => by
    obtain ⟨T2, k1, k2⟩ := m_don (s := s) (bM := bM) hcr hz hW hW4 hN (by omega) (zf_M_plan_44 n) 11 4096 0 T (by decide) (by decide) (by decide) h
    obtain ⟨T3, l1, l2⟩ := m_don2 (bM := bM) hcr hz hW hW4 hN c n (s + 1) T2 (by omega) (by omega) (by omega) (h.try (Fm.refl _ _) k2)
    rw [zf_M_plan_44, if_neg (by omega), k1, l1]
    exact ⟨T3, rfl, k2.trans l2⟩
theorem w_plan1 {W s hi lo : Int} (hW4 : W + 16 ≤ 400) (hs : 0 ≤ s ∧ s ≤ 20) (h1 : hi ≤ s ∧ hi ≤ 10 ∧ (hi = s ∨ hi = 10)) (h2 : lo = s - hi) (qc qm : Int → Int → Int → Sg → Option (Int × Sg)) : ∀ (c n n2 : Nat) (f l b bM m : Int) (S T : Sg), 0 ≤ f → f + c = 11 → c < n → c < n2 → ((Las W l m ∧ bM = b) ∨ (f ≤ hi ∧ l = -1 ∧ m = -1)) → Rw S T 0 0 → Rcr S → Zs S → S 0 0 0 0 = W → 0 ≤ W → S 0 0 31 3 ≤ 28 → ∃ (l' b' m' : Int) (S2 T2 : Sg), zf_O_plan_74 qc n l b s hi (max f lo) S = qc l' b' (s + 1) S2 ∧ zf_M_plan_53 qm n2 bM m s f T = qm b' m' (s + 1) T2 ∧ Las W l' m' ∧ Rcr S2 ∧ Zs S2 ∧ Fm TC S S2 ∧ Fm TM T T2
  | 0, n + 1, n2 + 1, f, l, b, bM, m, S, T, hf, hc, hn, hn2, hI, h, hcr, hz, hW, hW0, hN => by
    obtain ⟨i1, i2⟩ : Las W l m ∧ bM = b := by
      rcases hI with e | e
      · exact e
      · exact absurd e.1 (by omega)
    rw [zf_O_plan_74, if_pos (by omega), zf_M_plan_53, if_pos (by omega), zlt_v, zw_in (x := s + 1) (by omega) (by omega), i2]
    unfold zf_O_plan_162
    rw [zlt_v, zw_in (x := s + 1) (by omega) (by omega)]
    exact ⟨l, b, m, S, T, rfl, rfl, i1, hcr, hz, Fm.refl _ _, Fm.refl _ _⟩
  | c + 1, n + 1, n2 + 1, f, l, b, bM, m, S, T, hf, hc, hn, hn2, hI, h, hcr, hz, hW, hW0, hN => by
    have skip : ¬ (0 ≤ s - f ∧ s - f ≤ 10) → zf_M_plan_53 qm (n2 + 1) bM m s f T = zf_M_plan_53 qm n2 bM m s (f + 1) T := by
      intro q
      rw [zf_M_plan_53, if_neg (by omega), zlt_v, zw_in (x := s - f) (by omega) (by omega), pf_M_in, zbd_s, if_neg q, if_pos rfl]
      unfold zf_M_plan_108
      rw [zlt_v, zw_in (x := f + 1) (by omega) (by omega)]
    by_cases A : f < lo
    · obtain ⟨l', b', m', S2, T2, k1, k2, k3⟩ := w_plan1 hW4 hs h1 h2 qc qm c (n + 1) n2 (f + 1) l b bM m S T (by omega) (by omega) (by omega) (by omega) (hI.imp id (fun e => ⟨by omega, e.2⟩)) h hcr hz hW hW0 hN
      rw [skip (by omega), show max f lo = max (f + 1) lo by omega]
      exact ⟨l', b', m', S2, T2, k1, k2, k3⟩
    · by_cases B : hi < f
      · obtain ⟨l', b', m', S2, T2, k1, k2, k3⟩ := w_plan1 hW4 hs h1 h2 qc qm c (n + 1) n2 (f + 1) l b bM m S T (by omega) (by omega) (by omega) (by omega) (hI.imp id (fun e => absurd e.1 (by omega))) h hcr hz hW hW0 hN
        rw [skip (by omega)]
        refine ⟨l', b', m', S2, T2, ?_, k2, k3⟩
        rw [← k1, zf_O_plan_74, if_pos (by omega), zf_O_plan_74, if_pos (by omega)]
      · rw [show max f lo = f by omega]
        by_cases D : l = 1000000
        · have hm : m = 16 ∧ bM = b := by
            unfold Las at hI
            omega
          rw [hm.1, hm.2]
          obtain ⟨T2, k1, k2⟩ := m_don (s := s) (bM := b) hcr hz hW hW4 hN hs qm (c + 1) (n2 + 1) f T hf hc hn2 h
          rw [k1, zf_O_plan_74, if_neg B, if_pos D]
          unfold zf_O_plan_162
          rw [zlt_v, zw_in (x := s + 1) (by omega) (by omega)]
          exact ⟨l, b, 16, S, T2, rfl, rfl, Or.inl ⟨D, rfl⟩, hcr, hz, Fm.refl _ _, k2⟩
        · obtain ⟨a, u, S2, T2, t1, t2, t3, t4, t5, t6, t7⟩ := tw_lasts (x := f) (y := s - f) h hcr hz hW hW4 hN (by omega) (by omega)
          have hR := h.try t6 t7
          have hW2 : S2 0 0 0 0 = W := by rw [t6 0 0 0 0 (by unfold TC; omega), hW]
          have hN2 : S2 0 0 31 3 ≤ 28 := by rw [t6 0 0 31 3 (by unfold TC; omega)]; exact hN
          rw [zf_O_plan_74, if_neg B, if_neg D, zw_in (x := s - f) (by omega) (by omega), t1, zf_M_plan_53, if_neg (show ¬ (10 : Int) < f by omega), zlt_v, zlt_v, zw_in (x := s - f) (by omega) (by omega), pf_M_in, zbd_s, if_pos (show 0 ≤ s - f ∧ s - f ≤ 10 by omega), if_neg n10, t2, zbd_s]
          by_cases q : a ≤ l
          · have q2 : u ≤ m := by
              unfold Las at hI t3
              omega
            have hI2 : (Las W l m ∧ bM = b) := by
              rcases hI with e | e
              · exact e
              · unfold Las at t3
                omega
            rw [if_pos q, if_pos q2]
            unfold zf_O_plan_156 zf_M_plan_108
            rw [zlt_v, zw_in (x := f + 1) (by omega) (by omega), zlt_v]
            obtain ⟨l', b', m', S3, T3, k1, k2, k3, k4, k5, k6, k7⟩ := w_plan1 hW4 hs h1 h2 qc qm c n n2 (f + 1) l b bM m S2 T2 (by omega) (by omega) (by omega) (by omega) (Or.inl hI2) hR t4 t5 hW2 hW0 hN2
            rw [show max (f + 1) lo = f + 1 by omega] at k1
            exact ⟨l', b', m', S3, T3, k1, k2, k3, k4, k5, t6.trans k6, t7.trans k7⟩
          · have q2 : ¬ u ≤ m := by
              unfold Las at hI t3
              omega
            rw [if_neg q, if_neg q2, zlt_v, zw_in (x := 100 * f) (by omega) (by omega), zw_in (x := 100 * f + s) (by omega) (by omega), zw_in (x := 100 * f + s - f) (by omega) (by omega), zw_in (x := 100 * f + (s - f)) (by omega) (by omega)]
            unfold zf_O_plan_156 zf_M_plan_108
            rw [zlt_v, zw_in (x := f + 1) (by omega) (by omega), zlt_v]
            obtain ⟨l', b', m', S3, T3, k1, k2, k3, k4, k5, k6, k7⟩ := w_plan1 hW4 hs h1 h2 qc qm c n n2 (f + 1) a (100 * f + s - f) (100 * f + (s - f)) u S2 T2 (by omega) (by omega) (by omega) (by omega) (Or.inl ⟨t3, by omega⟩) hR t4 t5 hW2 hW0 hN2
            rw [show max (f + 1) lo = f + 1 by omega] at k1
            exact ⟨l', b', m', S3, T3, k1, k2, k3, k4, k5, t6.trans k6, t7.trans k7⟩
theorem w_plan2 {W : Int} (hW4 : W + 16 ≤ 400) : ∀ (c n n2 : Nat) (s l b bM m : Int) (S T : Sg), 0 ≤ s → s + c = 21 → c < n → c < n2 → ((Las W l m ∧ bM = b) ∨ (s = 0 ∧ l = -1 ∧ m = -1)) → Rw S T 0 0 → Rcr S → Zs S → S 0 0 0 0 = W → 0 ≤ W → S 0 0 31 3 ≤ 28 → ∃ (a : Int) (S2 T2 : Sg), zf_O_plan_43 n l b s S = some (a, S2) ∧ zf_M_plan_44 n2 bM m s T = some (a, T2) ∧ Rcr S2 ∧ Fm TC S S2 ∧ Fm TM T T2
  | 0, n + 1, n2 + 1, s, l, b, bM, m, S, T, hs, hc, hn, hn2, hI, h, hcr, hz, hW, hW0, hN => by
    have e : bM = b := by omega
    rw [zf_O_plan_43, if_pos (by omega), zf_M_plan_44, if_pos (by omega), e]
    exact ⟨b, S, T, rfl, rfl, hcr, Fm.refl _ _, Fm.refl _ _⟩
  | c + 1, n + 1, n2 + 1, s, l, b, bM, m, S, T, hs, hc, hn, hn2, hI, h, hcr, hz, hW, hW0, hN => by
    by_cases D : l = 1000000
    · have hm : m = 16 ∧ bM = b := by
        unfold Las at hI
        omega
      obtain ⟨T2, k1, k2⟩ := m_don2 (bM := b) hcr hz hW hW4 hN (c + 1) (n2 + 1) s T hs hc hn2 h
      rw [hm.1, hm.2, k1, zf_O_plan_43, if_neg (by omega), if_pos D]
      exact ⟨b, S, T2, rfl, rfl, hcr, Fm.refl _ _, k2⟩
    · rw [zf_O_plan_43, if_neg (by omega), if_neg D, zlt_v, zlt_v, zw_in (x := s - min s 10) (by omega) (by omega), zf_M_plan_44, if_neg (by omega)]
      obtain ⟨l', b', m', S2, T2, k1, k2, k3, k4, k5, k6, k7⟩ := w_plan1 (W := W) (s := s) (hi := min s 10) (lo := s - min s 10) hW4 (by omega) (by omega) rfl (zf_O_plan_43 n) (zf_M_plan_44 n2) 11 4096 4096 0 l b bM m S T (by decide) (by decide) (by decide) (by decide) (hI.imp id (fun e => ⟨by omega, e.2⟩)) h hcr hz hW hW0 hN
      rw [show max 0 (s - min s 10) = s - min s 10 by omega] at k1
      rw [k1, k2]
      obtain ⟨a, S3, T3, l1, l2, l3, l4, l5⟩ := w_plan2 hW4 c n n2 (s + 1) l' b' b' m' S2 T2 (by omega) (by omega) (by omega) (by omega) (Or.inl ⟨k3, rfl⟩) (h.try k6 k7) k4 k5 (by rw [k6 0 0 0 0 (by unfold TC; omega), hW]) hW0 (by rw [k6 0 0 31 3 (by unfold TC; omega)]; exact hN)
      exact ⟨a, S3, T3, l1, l2, l3, k6.trans l4, k7.trans l5⟩
theorem tw_plan2 {S T : Sg} (h : R2 S T ∧ Zs S) : ∃ (a : Int) (S2 T2 : Sg), zf_O_plan S = some (a, S2) ∧ zf_M_plan T = some (a, T2) ∧ R2 S2 T2 := by
  obtain ⟨h, hz⟩ := h
  have hT := h.th 0
  unfold zf_O_plan zf_M_plan
  rw [zlt_v]
  generalize zu T 9 0 0 4 0 = U at hT
  have hw0 := hT.1.mc.2.2.2.2.2.2.1
  have ho := hT.1.1.2.2.2.2.1.2.1
  have ho2 := hT.1.1.2.2.2.2.1.2.2.1
  rw [ho, hT.1.mc.1, zw_in (x := S 0 0 31 3 + 2) (by omega) (by omega), zw_in (x := S 0 0 0 0 + 16) (by omega) (by omega)]
  by_cases hx : S 0 0 31 3 ≤ 28
  · rw [if_pos hx, if_pos (show S 0 0 31 3 + 2 ≤ 30 by omega)]
    by_cases hy : S 0 0 0 0 + 16 ≤ 400
    · rw [if_pos hy, if_pos (show S 0 0 0 0 ≤ 384 by omega)]
      obtain ⟨a, S2, T2, k1, k2, k3, k4, k5⟩ := w_plan2 hy 21 4096 4096 0 (-1) 0 (-1) (-1) S U (by decide) (by decide) (by decide) (by decide) (Or.inr ⟨rfl, rfl, rfl⟩) hT.1 hT.2.1 hz rfl hw0.1 hx
      exact ⟨a, S2, T2, k1, k2, hT.try k4 k5 k3⟩
    · rw [if_neg hy, if_neg (show ¬ S 0 0 0 0 ≤ 384 by omega)]
      exact ⟨-3, S, U, rfl, rfl, hT⟩
  · rw [if_neg hx, if_neg (show ¬ S 0 0 31 3 + 2 ≤ 30 by omega)]
    exact ⟨-2, S, U, rfl, rfl, hT⟩
