/-! ===== put, copy, weight, weather ===== -/
theorem pf_M_noRow {x : Int} (hx : 0 ≤ x ∧ x < 8) (S : Sg) : zf_M_noRow x S = some (if S 9 0 1 x = 0 then -11 else if S 9 0 1 x = 3 then 0 else -12, S) := by
  unfold zf_M_noRow
  rw [zck_b hx]
  simp only [ite_some]
theorem pf_M_noThing {x : Int} (hx : 0 ≤ x ∧ x < 8) (S : Sg) : zf_M_noThing x S = some (if S 9 0 1 x = 0 then -11 else if S 9 0 1 x = 3 then -12 else 0, S) := by
  unfold zf_M_noThing
  rw [zck_b hx]
  simp only [ite_some]
theorem pf_hasPlace (d i : Int) (S : Sg) (h : S 2 d 0 5 ≤ 120) : zf_S_hasPlace d i S = some (if 0 ≤ i ∧ i < S 2 d 0 5 then 1 else 0, S) := by
  unfold zf_S_hasPlace
  by_cases h1 : i < 0
  · rw [if_pos h1, if_neg (by omega)]
  · by_cases h2 : S 2 d 0 5 ≤ i
    · rw [if_neg h1, if_pos h2, if_neg (by omega)]
    · rw [if_neg h1, if_neg h2, if_neg (by omega), if_pos (by omega)]
theorem nS {S : Sg} {g : Nat} {r k i : Int} (hg : ¬ (g = 9 ∧ r = 0 ∧ k = 0)) : zu S 9 0 0 4 0 g r k i = S g r k i := by rw [zu_ne hg]
theorem pd_put {S : Sg} (d i v : Int) (hv : zn v) (hR : Ria S 0 0) (hs : Rsh S) : Pd S (zf_O_put d i v) (zf_M_put d i v) := by
  by_cases hd : 0 ≤ d ∧ d < 8
  · have q := hs d hd.1 hd.2
    have q0 := q
    unfold Rs1 at q
    have e91 : zu S 9 0 0 4 0 9 0 1 d = S 2 d 0 0 := by rw [nS (by omega), q.1]
    by_cases h0 : S 2 d 0 0 = 0
    · refine Pd.refused hR hs (a := -11) ?_ ?_
      · unfold zf_O_put
        rw [pf_O_isShelf, zbd_s, if_pos hd, if_neg (by decide), zck_b hd, if_pos h0]
      · unfold zf_M_put
        rw [zlt_v, pf_M_isShelf, zbd_s, if_pos hd, if_neg (by decide), pf_M_noRow hd, zbd_s, e91, if_pos h0, if_neg (by decide), pf_M_noRow hd, zbd_s, e91, if_pos h0]
    · by_cases h3 : S 2 d 0 0 = 3
      · have q3 := q.2.2.1 h3
        have e93 : zu S 9 0 0 4 0 9 0 3 d = S 2 d 0 5 := by rw [nS (by omega), q3.2.1]
        by_cases hi : 0 ≤ i ∧ i < S 2 d 0 5
        · have hcut : ∃ c, (∀ T : Sg, T 2 d 0 4 = S 2 d 0 4 → zf_S_cut d v T = some (c, T)) ∧ (∀ T : Sg, T 9 0 2 d = S 2 d 0 4 → (if T 9 0 2 d = 0 then zf_M_put_84 d i (zi2b v) T else if T 9 0 2 d = 1 then zf_M_put_84 d i (zi2s v) T else zf_M_put_84 d i v T) = some (0, zu T 10 d 0 i c)) := by
            have hi2 : 0 ≤ i ∧ i < 120 := by omega
            by_cases t0 : S 2 d 0 4 = 0
            · exact ⟨zi2b v, fun T e => by unfold zf_S_cut; rw [e, if_pos t0], fun T e => by unfold zf_M_put_84; rw [e, if_pos t0, zck_b hi2, zlt_v]⟩
            · by_cases t1 : S 2 d 0 4 = 1
              · exact ⟨zi2s v, fun T e => by unfold zf_S_cut; rw [e, if_neg t0, if_pos t1], fun T e => by unfold zf_M_put_84; rw [e, if_neg t0, if_pos t1, zck_b hi2, zlt_v]⟩
              · exact ⟨v, fun T e => by unfold zf_S_cut; rw [e, if_neg t0, if_neg t1], fun T e => by unfold zf_M_put_84; rw [e, if_neg t0, if_neg t1, zck_b hi2, zlt_v]⟩
          obtain ⟨c, hc1, hc2⟩ := hcut
          refine Pd.made hR hs (a := 0) (S1 := zu S 2 d 1 i c) (S2 := zu (zu (zu S 2 d 1 i c) 9 0 0 4 0) 10 d 0 i c) ?_ ?_ d ?_ ?_ ?_ ?_
          · unfold zf_O_put
            rw [pf_O_isShelf, zbd_s, if_pos hd, if_neg (by decide), zck_b hd, if_neg h0, if_pos h3, pf_hasPlace d i S (by omega), zbd_s, if_pos hi, if_neg (by decide), hc1 S rfl, zbd_s, zck_b (by omega), zlt_v]
          · have f91 : zu (zu S 2 d 1 i c) 9 0 0 4 0 9 0 1 d = 3 := by rw [nS (by omega), zu_ne (by omega), q.1, h3]
            have f93 : zu (zu S 2 d 1 i c) 9 0 0 4 0 9 0 3 d = S 2 d 0 5 := by rw [nS (by omega), zu_ne (by omega), q3.2.1]
            have f92 : zu (zu S 2 d 1 i c) 9 0 0 4 0 9 0 2 d = S 2 d 0 4 := by rw [nS (by omega), zu_ne (by omega), q3.1]
            unfold zf_M_put
            rw [zlt_v, pf_M_isShelf, zbd_s, if_pos hd, if_neg (by decide), pf_M_noRow hd, zbd_s, f91, if_pos (show (if (3 : Int) = 0 then (-11 : Int) else if (3 : Int) = 3 then 0 else -12) = 0 by decide), zck_b hd, f93, zw_in (by omega) (by omega), pf_M_in, zbd_s, if_pos (show 0 ≤ i ∧ i ≤ S 2 d 0 5 - 1 by omega), if_neg (by decide), hc2 _ f92]
          · unfold Rs1
            simp only [zu_ne (show ¬ ((9 : Nat) = 10 ∧ (0 : Int) = d ∧ (1 : Int) = 0) by omega)]
            refine ⟨by simp [zu, q.1], by simp [zu]; omega, fun _ => ⟨by simp [zu, q3.1], by simp [zu, q3.2.1], by simp [zu]; omega, by simp [zu]; omega, fun j a b => ?_⟩, fun z => by simp [zu] at z; omega, fun z => by simp [zu] at z; omega⟩
            simp [zu] at b
            by_cases e : j = i
            · simp [zu, e]
            · simp [zu, e, q3.2.2.2.2 j a b]
          · intro g r k hh; unfold Tf at hh; simp (discharger := omega) only [zu_ne]
          · intro g r k hr hg; simp (discharger := omega) only [zu_ne]
          · intro k j h1 h3 hj; simp [zu, show ¬ k = 0 by omega]
        · refine Pd.refused hR hs (a := -13) ?_ ?_
          · unfold zf_O_put
            rw [pf_O_isShelf, zbd_s, if_pos hd, if_neg (by decide), zck_b hd, if_neg h0, if_pos h3, pf_hasPlace d i S (by omega), zbd_s, if_neg hi, if_pos rfl]
          · unfold zf_M_put
            rw [zlt_v, pf_M_isShelf, zbd_s, if_pos hd, if_neg (by decide), pf_M_noRow hd, zbd_s, e91, if_neg h0, if_pos h3, if_pos rfl, zck_b hd, e93, zw_in (by omega) (by omega), pf_M_in, zbd_s, if_neg (show ¬ (0 ≤ i ∧ i ≤ S 2 d 0 5 - 1) by omega), if_pos rfl]
      · refine Pd.refused hR hs (a := -12) ?_ ?_
        · unfold zf_O_put
          rw [pf_O_isShelf, zbd_s, if_pos hd, if_neg (by decide), zck_b hd, if_neg h0, if_neg h3]
        · unfold zf_M_put
          rw [zlt_v, pf_M_isShelf, zbd_s, if_pos hd, if_neg (by decide), pf_M_noRow hd, zbd_s, e91, if_neg h0, if_neg h3, if_neg (by decide), pf_M_noRow hd, zbd_s, e91, if_neg h0, if_neg h3]
  · refine Pd.refused hR hs (a := -1) ?_ ?_
    · unfold zf_O_put
      rw [pf_O_isShelf, zbd_s, if_neg hd, if_pos rfl]
    · unfold zf_M_put
      rw [zlt_v, pf_M_isShelf, zbd_s, if_neg hd, if_pos rfl]
theorem pd_weight {S : Sg} (d : Int) (hR : Ria S 0 0) (hs : Rsh S) : Pd S (zf_O_weight d) (zf_M_weight d) := by
  by_cases hd : 0 ≤ d ∧ d < 8
  · have q := hs d hd.1 hd.2
    unfold Rs1 at q
    have e91 : zu S 9 0 0 4 0 9 0 1 d = S 2 d 0 0 := by rw [nS (by omega), q.1]
    have e11 : ∀ k, zu S 9 0 0 4 0 11 d 0 k = S 11 d 0 k := fun k => nS (by omega)
    by_cases h0 : S 2 d 0 0 = 0
    · refine Pd.refused hR hs (a := -11) ?_ ?_
      · unfold zf_O_weight
        rw [pf_O_isShelf, zbd_s, if_pos hd, if_neg (by decide), zck_b hd, if_pos h0]
      · unfold zf_M_weight
        rw [zlt_v, pf_M_isShelf, zbd_s, if_pos hd, if_neg (by decide), pf_M_noThing hd, zbd_s, e91, if_pos h0, if_neg (by decide), pf_M_noThing hd, zbd_s, e91, if_pos h0]
    · by_cases h3 : S 2 d 0 0 = 3
      · refine Pd.refused hR hs (a := -12) ?_ ?_
        · unfold zf_O_weight
          rw [pf_O_isShelf, zbd_s, if_pos hd, if_neg (by decide), zck_b hd, if_neg h0, if_pos h3]
        · unfold zf_M_weight
          rw [zlt_v, pf_M_isShelf, zbd_s, if_pos hd, if_neg (by decide), pf_M_noThing hd, zbd_s, e91, if_neg h0, if_pos h3, if_neg (by decide), pf_M_noThing hd, zbd_s, e91, if_neg h0, if_pos h3]
      · refine Pd.refused hR hs (a := S 2 d 0 1) ?_ ?_
        · unfold zf_O_weight
          rw [pf_O_isShelf, zbd_s, if_pos hd, if_neg (by decide), zck_b hd, if_neg h0, if_neg h3]
        · unfold zf_M_weight
          rw [zlt_v, pf_M_isShelf, zbd_s, if_pos hd, if_neg (by decide), pf_M_noThing hd, zbd_s, e91, if_neg h0, if_neg h3, if_pos rfl, zck_b hd]
          by_cases h2 : S 2 d 0 0 = 2
          · have q2 := q.2.2.2.2 h2
            rw [if_pos h2, e11, e11, zw_in (x := 1000 + S 11 d 0 1) (by omega) (by omega), zw_in (by omega) (by omega), q2.2.1]
          · have q1 := q.2.2.2.1 (by omega)
            rw [if_neg h2, zlt_v, e11, show (0 : Int) = zbI false from rfl, pf_W_need, zbd_s, pf_W_wage, zbd_s]
            have hb : (0 ≤ needS (S 11 d (zbI false) (zbI false)) false ∧ needS (S 11 d (zbI false) (zbI false)) false ≤ 5) ∧ (0 ≤ wageS (S 11 d (zbI false) (zbI false)) false ∧ wageS (S 11 d (zbI false) (zbI false)) false ≤ 6) := by
              unfold needS wageS; repeat' split
              all_goals omega
            have hz : zbI false = 0 := rfl
            simp only [hz] at hb ⊢
            rw [zlt_v, zw_in (x := 10 + needS (S 11 d 0 0) false) (by omega) (by omega), zw_in (x := 10 + needS (S 11 d 0 0) false + wageS (S 11 d 0 0) false) (by omega) (by omega), zw_in (x := 10 + needS (S 11 d 0 0) false + wageS (S 11 d 0 0) false + S 11 d 0 0) (by omega) (by omega), e11, q1.1]
            unfold hfS
            by_cases k1 : S 11 d 0 0 = 1
            · rw [if_pos k1, if_pos k1, zw_in (by omega) (by omega)]
            · by_cases k5 : S 11 d 0 0 = 5
              · rw [if_neg k1, if_neg k1, if_pos k5, if_pos k5, zw_in (by omega) (by omega)]
              · rw [if_neg k1, if_neg k1, if_neg k5, if_neg k5]
  · refine Pd.refused hR hs (a := -1) ?_ ?_
    · unfold zf_O_weight
      rw [pf_O_isShelf, zbd_s, if_neg hd, if_pos rfl]
    · unfold zf_M_weight
      rw [zlt_v, pf_M_isShelf, zbd_s, if_neg hd, if_pos rfl]
theorem pf_hasRun (d i n : Int) (S : Sg) (h : 0 ≤ S 2 d 0 5 ∧ S 2 d 0 5 ≤ 120) : zf_S_hasRun d i n S = some (if 0 ≤ i ∧ 0 ≤ n ∧ i + n ≤ S 2 d 0 5 then 1 else 0, S) := by
  unfold zf_S_hasRun
  by_cases h1 : i < 0
  · rw [if_pos h1, if_neg (by omega)]
  · by_cases h2 : n < 0
    · rw [if_neg h1, if_pos h2, if_neg (by omega)]
    · by_cases h3 : S 2 d 0 5 < i
      · rw [if_neg h1, if_neg h2, if_pos h3, if_neg (by omega)]
      · rw [if_neg h1, if_neg h2, if_neg h3, zw_in (by omega) (by omega)]
        by_cases h4 : S 2 d 0 5 - i < n
        · rw [if_pos h4, if_neg (by omega)]
        · rw [if_neg h4, if_pos (by omega)]
theorem zcmp_gt {a b : Int} : (0 < zcmp a b) = (b < a) := by
  unfold zcmp
  by_cases h : a < b
  · rw [if_pos h]; simp; omega
  · by_cases h2 : a = b
    · rw [if_neg h, if_pos h2]; simp; omega
    · rw [if_neg h, if_neg h2]; simp; omega
theorem zcmp_le {a b : Int} : (zcmp a b ≤ 0) = (a ≤ b) := by
  unfold zcmp
  by_cases h : a < b
  · rw [if_pos h]; simp; omega
  · by_cases h2 : a = b
    · rw [if_neg h, if_pos h2]; simp; omega
    · rw [if_neg h, if_neg h2]; simp; omega
theorem pd_copy {S : Sg} (d i e j n : Int) (hi : zn i) (hj : zn j) (hnn : zn n) (hR : Ria S 0 0) (hs : Rsh S) : Pd S (zf_O_copy d i e j n) (zf_M_copy d i e j n) := by
  unfold zn at hi hj hnn
  by_cases hd : 0 ≤ d ∧ d < 8
  · by_cases he : 0 ≤ e ∧ e < 8
    · have q := hs d hd.1 hd.2
      have p := hs e he.1 he.2
      unfold Rs1 at q p
      have e91 : zu S 9 0 0 4 0 9 0 1 d = S 2 d 0 0 := by rw [nS (by omega), q.1]
      have e92 : zu S 9 0 0 4 0 9 0 1 e = S 2 e 0 0 := by rw [nS (by omega), p.1]
      by_cases h0 : S 2 d 0 0 = 0
      · refine Pd.refused hR hs (a := -11) ?_ ?_
        · unfold zf_O_copy
          rw [pf_O_isShelf, zbd_s, if_pos hd, if_neg (by decide), pf_O_isShelf, zbd_s, if_pos he, if_neg (by decide), zck_b hd, zck_b he, if_pos h0]
        · unfold zf_M_copy
          rw [zlt_v, pf_M_isShelf, zbd_s, if_pos hd, if_neg (by decide), pf_M_isShelf, zbd_s, if_pos he, if_neg (by decide), zck_b hd, e91, if_pos h0]
      · by_cases g0 : S 2 e 0 0 = 0
        · refine Pd.refused hR hs (a := -11) ?_ ?_
          · unfold zf_O_copy
            rw [pf_O_isShelf, zbd_s, if_pos hd, if_neg (by decide), pf_O_isShelf, zbd_s, if_pos he, if_neg (by decide), zck_b hd, zck_b he, if_neg h0, if_pos g0]
          · unfold zf_M_copy
            rw [zlt_v, pf_M_isShelf, zbd_s, if_pos hd, if_neg (by decide), pf_M_isShelf, zbd_s, if_pos he, if_neg (by decide), zck_b hd, e91, if_neg h0, zck_b he, e92, if_pos g0]
        · by_cases hk : S 2 d 0 0 = 3 ∧ S 2 e 0 0 = 3
          · obtain ⟨h3, g3⟩ := hk
            have q3 := q.2.2.1 h3
            have p3 := p.2.2.1 g3
            have e93 : zu S 9 0 0 4 0 9 0 2 d = S 2 d 0 4 := by rw [nS (by omega), q3.1]
            have e94 : zu S 9 0 0 4 0 9 0 2 e = S 2 e 0 4 := by rw [nS (by omega), p3.1]
            have e95 : zu S 9 0 0 4 0 9 0 3 d = S 2 d 0 5 := by rw [nS (by omega), q3.2.1]
            have e96 : zu S 9 0 0 4 0 9 0 3 e = S 2 e 0 5 := by rw [nS (by omega), p3.2.1]
            by_cases ht : S 2 d 0 4 = S 2 e 0 4
            · by_cases hr : (0 ≤ i ∧ 0 ≤ n ∧ i + n ≤ S 2 d 0 5) ∧ (0 ≤ j ∧ 0 ≤ n ∧ j + n ≤ S 2 e 0 5)
              · have hc : (0 : Int) ≤ i ∧ (0 : Int) ≤ j ∧ (0 : Int) ≤ n ∧ (i + n : Int) ≤ 120 ∧ (j + n : Int) ≤ 120 := by omega
                refine Pd.made hR hs (a := n) (S1 := zcp S 2 d 1 i 2 e 1 j n) (S2 := zcp (zu (zcp S 2 d 1 i 2 e 1 j n) 9 0 0 4 0) 10 d 0 i 10 e 0 j n) ?_ ?_ e ?_ ?_ ?_ ?_
                · unfold zf_O_copy
                  rw [pf_O_isShelf, zbd_s, if_pos hd, if_neg (by decide), pf_O_isShelf, zbd_s, if_pos he, if_neg (by decide), zck_b hd, zck_b he, if_neg h0, if_neg g0, if_pos h3, if_pos g3, if_pos ht, pf_hasRun d i n S (by omega), zbd_s, if_pos hr.1, if_neg (by decide), pf_hasRun e j n S (by omega), zbd_s, if_pos hr.2, if_neg (by decide), zck_b hc, zlt_v]
                · have f91 : ∀ k i', ¬ k = 0 → zu (zcp S 2 d 1 i 2 e 1 j n) 9 0 0 4 0 9 0 k i' = S 9 0 k i' := fun k i' hk => by rw [nS (by omega), zcp_nr (by omega)]
                  unfold zf_M_copy
                  rw [zlt_v, pf_M_isShelf, zbd_s, if_pos hd, if_neg (by decide), pf_M_isShelf, zbd_s, if_pos he, if_neg (by decide), zck_b hd, f91 1 d (by decide), q.1, if_neg h0, zck_b he, f91 1 e (by decide), p.1, if_neg g0, if_pos h3, if_pos g3, f91 2 d (by decide), f91 2 e (by decide), q3.1, p3.1, if_pos ht, if_neg (by omega), if_neg (by omega), if_neg (by omega), f91 3 d (by decide), f91 3 e (by decide), q3.2.1, p3.2.1, zv_id (x := i + n) (by unfold zm; omega), zv_id (x := j + n) (by unfold zm; omega)]
                  simp only [zcmp_gt, zcmp_le]
                  rw [if_neg (by omega), if_pos (by omega), zck_b hc, zlt_v]
                · unfold Rs1
                  have k1 : ∀ i', zcp (zu (zcp S 2 d 1 i 2 e 1 j n) 9 0 0 4 0) 10 d 0 i 10 e 0 j n 2 e 0 i' = S 2 e 0 i' := fun i' => by rw [zcp_nr (by omega), zu_ne (by omega), zcp_nr (by omega)]
                  have k9 : ∀ k i', ¬ k = 0 → zcp (zu (zcp S 2 d 1 i 2 e 1 j n) 9 0 0 4 0) 10 d 0 i 10 e 0 j n 9 0 k i' = S 9 0 k i' := fun k i' hk => by rw [zcp_nr (by omega), zu_ne (by omega), zcp_nr (by omega)]
                  rw [k1 0, k9 1 e (by decide), k1 4, k1 5, k9 2 e (by decide), k9 3 e (by decide)]
                  refine ⟨p.1, p.2.1, fun _ => ⟨p3.1, p3.2.1, p3.2.2.1, p3.2.2.2.1, fun x a b => ?_⟩, fun z => by omega, fun z => by omega⟩
                  rw [show zcp (zu (zcp S 2 d 1 i 2 e 1 j n) 9 0 0 4 0) 10 d 0 i 10 e 0 j n 2 e 1 x = zcp S 2 d 1 i 2 e 1 j n 2 e 1 x by rw [zcp_nr (by omega), zu_ne (by omega)]]
                  rw [zcp_row, zcp_row]
                  by_cases z : j ≤ x ∧ x < j + n
                  · simp only [if_pos z]
                    rw [zu_ne (by omega), zcp_nr (by omega)]
                    exact q3.2.2.2.2 _ (by omega) (by omega)
                  · simp only [if_neg z]
                    rw [zu_ne (by omega), zcp_nr (by omega)]
                    exact p3.2.2.2.2 _ a b
                · intro g r k hh; unfold Tf at hh; simp (discharger := omega) only [zu_ne, zcp_nr]
                · intro g r k hr hg; simp (discharger := omega) only [zu_ne, zcp_nr]
                · intro k x h1 h3 hx; rw [zcp_nr (by omega), zu_ne (by omega), zcp_nr (by omega)]
              · refine Pd.refused hR hs (a := -13) ?_ ?_
                · unfold zf_O_copy
                  rw [pf_O_isShelf, zbd_s, if_pos hd, if_neg (by decide), pf_O_isShelf, zbd_s, if_pos he, if_neg (by decide), zck_b hd, zck_b he, if_neg h0, if_neg g0, if_pos h3, if_pos g3, if_pos ht, pf_hasRun d i n S (by omega), zbd_s]
                  by_cases z : 0 ≤ i ∧ 0 ≤ n ∧ i + n ≤ S 2 d 0 5
                  · rw [if_pos z, if_neg (by decide), pf_hasRun e j n S (by omega), zbd_s, if_neg (fun y => hr ⟨z, y⟩), if_pos rfl]
                  · rw [if_neg z, if_pos rfl]
                · unfold zf_M_copy
                  rw [zlt_v, pf_M_isShelf, zbd_s, if_pos hd, if_neg (by decide), pf_M_isShelf, zbd_s, if_pos he, if_neg (by decide), zck_b hd, e91, if_neg h0, zck_b he, e92, if_neg g0, if_pos h3, if_pos g3, e93, e94, if_pos ht, e95, e96, zv_id (x := i + n) (by unfold zm; omega), zv_id (x := j + n) (by unfold zm; omega)]
                  simp only [zcmp_gt, zcmp_le]
                  by_cases z1 : i < 0
                  · rw [if_pos z1]
                  · by_cases z2 : j < 0
                    · rw [if_neg z1, if_pos z2]
                    · by_cases z3 : n < 0
                      · rw [if_neg z1, if_neg z2, if_pos z3]
                      · by_cases z4 : S 2 d 0 5 < i + n
                        · rw [if_neg z1, if_neg z2, if_neg z3, if_pos z4]
                        · rw [if_neg z1, if_neg z2, if_neg z3, if_neg z4, if_neg (by omega)]
            · refine Pd.refused hR hs (a := -12) ?_ ?_
              · unfold zf_O_copy
                rw [pf_O_isShelf, zbd_s, if_pos hd, if_neg (by decide), pf_O_isShelf, zbd_s, if_pos he, if_neg (by decide), zck_b hd, zck_b he, if_neg h0, if_neg g0, if_pos h3, if_pos g3, if_neg ht]
              · unfold zf_M_copy
                rw [zlt_v, pf_M_isShelf, zbd_s, if_pos hd, if_neg (by decide), pf_M_isShelf, zbd_s, if_pos he, if_neg (by decide), zck_b hd, e91, if_neg h0, zck_b he, e92, if_neg g0, if_pos h3, if_pos g3, e93, e94, if_neg ht]
          · refine Pd.refused hR hs (a := -12) ?_ ?_
            · unfold zf_O_copy
              rw [pf_O_isShelf, zbd_s, if_pos hd, if_neg (by decide), pf_O_isShelf, zbd_s, if_pos he, if_neg (by decide), zck_b hd, zck_b he, if_neg h0, if_neg g0]
              by_cases z : S 2 d 0 0 = 3
              · rw [if_pos z, if_neg (fun y => hk ⟨z, y⟩)]
              · rw [if_neg z]
            · unfold zf_M_copy
              rw [zlt_v, pf_M_isShelf, zbd_s, if_pos hd, if_neg (by decide), pf_M_isShelf, zbd_s, if_pos he, if_neg (by decide), zck_b hd, e91, if_neg h0, zck_b he, e92, if_neg g0]
              by_cases z : S 2 d 0 0 = 3
              · rw [if_pos z, if_neg (fun y => hk ⟨z, y⟩)]
              · rw [if_neg z]
    · refine Pd.refused hR hs (a := -1) ?_ ?_
      · unfold zf_O_copy
        rw [pf_O_isShelf, zbd_s, if_pos hd, if_neg (by decide), pf_O_isShelf, zbd_s, if_neg he, if_pos rfl]
      · unfold zf_M_copy
        rw [zlt_v, pf_M_isShelf, zbd_s, if_pos hd, if_neg (by decide), pf_M_isShelf, zbd_s, if_neg he, if_pos rfl]
  · refine Pd.refused hR hs (a := -1) ?_ ?_
    · unfold zf_O_copy
      rw [pf_O_isShelf, zbd_s, if_neg hd, if_pos rfl]
    · unfold zf_M_copy
      rw [zlt_v, pf_M_isShelf, zbd_s, if_neg hd, if_pos rfl]
