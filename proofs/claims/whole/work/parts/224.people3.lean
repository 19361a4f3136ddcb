/-! ===== house, skill, about, home ===== -/
theorem pc_house {S : Sg} (x c r : Int) (hR : Ria S 0 0) : Pc Th S (zf_O_house x c r) (zf_M_house x c r) := by
  have hho := hR.2.1
  have eS : ∀ k i, zu S 9 0 0 4 0 5 0 k i = S 5 0 k i := fun k i => ng (by decide)
  by_cases hx : (0 ≤ x ∧ x < 12) ∧ (0 ≤ c ∧ c ≤ 20) ∧ (1 ≤ r ∧ r ≤ 9)
  · obtain ⟨hx, hc, hr⟩ := hx
    have q := hho x hx.1 hx.2
    unfold Rh1 at q
    refine ⟨if S 0 0 2 x = c ∧ S 0 0 4 x = r then 0 else 1, zu (zu S 0 0 2 x c) 0 0 4 x r, zu (zu (zu (zu (zu S 0 0 2 x c) 0 0 4 x r) 9 0 0 4 0) 5 0 10 x c) 5 0 12 x r, ?_, ?_, hR.house x ?_ ?_ ?_ ?_, ?_⟩
    · unfold zf_O_house zf_O_house_56 zf_O_house_61
      rw [pf_O_isHouse, zbd_s, if_pos hx, if_neg (by decide), if_neg (by omega), if_neg (by omega), if_neg (by omega), if_pos hr.2, zck_b hx]
      simp only [zck_b hx, zlt_v]
      by_cases h1 : S 0 0 2 x = c
      · by_cases h2 : S 0 0 4 x = r
        · simp [h1, h2]
        · simp [h1, h2]
      · simp [h1]
    · have e5 : ∀ k i, zu (zu (zu S 0 0 2 x c) 0 0 4 x r) 9 0 0 4 0 5 0 k i = S 5 0 k i := fun k i => by simp [zu]
      unfold zf_M_house zf_M_house_60 zf_M_house_65
      rw [zlt_v, pf_M_isHouse, zbd_s, if_pos hx, if_neg (by decide), pf_M_in, zbd_s, if_pos hc, if_neg (by decide), pf_M_in, zbd_s, if_pos hr, if_neg (by decide), zck_b hx, e5, e5, q.1, q.2.2.1]
      simp only [zck_b hx, zlt_v]
      by_cases h1 : S 0 0 2 x = c
      · by_cases h2 : S 0 0 4 x = r
        · simp [h1, h2]
        · simp [h1, h2]
      · simp [h1]
    · intro g r k hh; unfold Th T0 at hh; simp (discharger := omega) only [zu_ne]
    · intro i k hi; simp [zu, hi]
    · intro i k hi; simp [zu, hi]
    · unfold Rh1; simp [zu]; omega
    · intro g r k hh; unfold Th T0 at hh; simp (discharger := omega) only [zu_ne]
  · refine Pc.refused Th0 hR (a := -1) ?_ ?_
    · unfold zf_O_house
      rw [pf_O_isHouse, zbd_s]
      by_cases h1 : 0 ≤ x ∧ x < 12
      · rw [if_pos h1, if_neg (by decide)]
        by_cases h2 : c < 0
        · rw [if_pos h2]
        · by_cases h3 : 20 < c
          · rw [if_neg h2, if_pos h3]
          · by_cases h4 : r < 1
            · rw [if_neg h2, if_neg h3, if_pos h4]
            · rw [if_neg h2, if_neg h3, if_neg h4, if_neg (by omega)]
      · rw [if_neg h1, if_pos rfl]
    · unfold zf_M_house
      rw [zlt_v, pf_M_isHouse, zbd_s]
      by_cases h1 : 0 ≤ x ∧ x < 12
      · rw [if_pos h1, if_neg (by decide), pf_M_in, zbd_s]
        by_cases h2 : 0 ≤ c ∧ c ≤ 20
        · rw [if_pos h2, if_neg (by decide), pf_M_in, zbd_s, if_neg (show ¬ (1 ≤ r ∧ r ≤ 9) by omega), if_pos rfl]
        · rw [if_neg h2, if_pos rfl]
      · rw [if_neg h1, if_pos rfl]
/-- the bits of skills, all of them tried -/
theorem bitsF : ∀ s : Fin 256, ∀ k : Fin 8, ((zand (zshr (s.val : Int) (k.val : Int)) 1 = 1) ↔ zor (s.val : Int) (zshl 1 (k.val : Int)) = (s.val : Int)) ∧ ((zand (zshr (s.val : Int) (k.val : Int)) 1 = 1) ↔ ¬ zand (s.val : Int) (zxor (zshl 1 (k.val : Int)) (-1)) = (s.val : Int)) ∧ (0 ≤ zor (s.val : Int) (zshl 1 (k.val : Int)) ∧ zor (s.val : Int) (zshl 1 (k.val : Int)) < 256) ∧ (0 ≤ zand (s.val : Int) (zxor (zshl 1 (k.val : Int)) (-1)) ∧ zand (s.val : Int) (zxor (zshl 1 (k.val : Int)) (-1)) < 256) := by decide +kernel
theorem bitsI {s k : Int} (hs : 0 ≤ s ∧ s < 256) (hk : 0 ≤ k ∧ k < 8) : ((zand (zshr s k) 1 = 1) ↔ zor s (zshl 1 k) = s) ∧ ((zand (zshr s k) 1 = 1) ↔ ¬ zand s (zxor (zshl 1 k) (-1)) = s) ∧ (0 ≤ zor s (zshl 1 k) ∧ zor s (zshl 1 k) < 256) ∧ (0 ≤ zand s (zxor (zshl 1 k) (-1)) ∧ zand s (zxor (zshl 1 k) (-1)) < 256) := by
  have h := bitsF ⟨s.toNat, by omega⟩ ⟨k.toNat, by omega⟩
  simp only [show ((s.toNat : Nat) : Int) = s by omega, show ((k.toNat : Nat) : Int) = k by omega] at h
  exact h
theorem pc_skill {S : Sg} (x k b : Int) (hR : Ria S 0 0) : Pc Tp S (zf_O_skill x k (if b = 0 then 0 else 1)) (zf_M_skill x k (if b = 0 then 0 else 1)) := by
  obtain ⟨hn, hn2, hpp⟩ := hR.2.2.1
  have eS : ∀ k i, zu S 9 0 0 4 0 5 0 k i = S 5 0 k i := fun k i => ng (by decide)
  by_cases hx : 0 ≤ x ∧ x < S 0 0 6 0
  · have q := hpp x hx.1 hx.2
    unfold Rp1 at q
    have h4 : 0 ≤ x ∧ x < 40 := by omega
    by_cases hk : 0 ≤ k ∧ k < 8
    · by_cases hg : S 0 0 11 x = 2
      · refine Pc.refused Tp0 hR (a := -3) ?_ ?_
        · unfold zf_O_skill
          rw [pf_P_has, zbd_s, if_pos hx, if_neg (by decide), if_neg (by omega), if_pos hk.2, zck_b h4, if_pos hg]
        · unfold zf_M_skill
          rw [zlt_v, pf_M_isPerson _ (by rw [eS]; omega), zbd_s, eS, hn, if_pos hx, if_neg (by decide), pf_M_in, zbd_s, if_pos (show 0 ≤ k ∧ k ≤ 7 by omega), if_neg (by decide), zck_b h4, eS, q.2.2.2.2.1, if_pos hg]
      · have hbit := bitsI (s := S 0 0 10 x) (k := k) (by omega) hk
        generalize hs : S 0 0 10 x = s at hbit
        have hm4 : S 5 0 4 x = s := by rw [q.2.2.2.1, hs]
        by_cases hb : b = 0
        · rw [if_pos hb]
          generalize hv : zand s (zxor (zshl 1 k) (-1)) = v at hbit
          refine ⟨if s = v then 0 else 1, zu S 0 0 10 x v, zu (zu (zu S 0 0 10 x v) 9 0 0 4 0) 5 0 4 x v, ?_, ?_, hR.person x ?_ ?_ ?_ ?_, ?_⟩
          · unfold zf_O_skill zf_O_skill_83
            rw [pf_P_has, zbd_s, if_pos hx, if_neg (by decide), if_neg (by omega), if_pos hk.2, zck_b h4, if_neg hg, zlt_v, zlt_v, if_pos rfl, zck_b h4, zlt_v, hs, hv]
            split <;> rfl
          · have e5 : ∀ k i, zu (zu S 0 0 10 x v) 9 0 0 4 0 5 0 k i = S 5 0 k i := fun k i => by simp [zu]
            unfold zf_M_skill zf_M_skill_63 zf_M_skill_108
            rw [zlt_v, pf_M_isPerson _ (by rw [e5]; omega), zbd_s, e5, hn, if_pos hx, if_neg (by decide), pf_M_in, zbd_s, if_pos (show 0 ≤ k ∧ k ≤ 7 by omega), if_neg (by decide), zck_b h4, e5, q.2.2.2.2.1, if_neg hg, e5, hm4]
            by_cases z : s = v
            · have hz : ¬ zand (zshr s k) 1 = 1 := by rw [hbit.2.1]; simp [z]
              rw [if_neg hz, if_pos z]
              simp only [zck_b h4, zlt_v, hv, if_true]
            · have hz : zand (zshr s k) 1 = 1 := by rw [hbit.2.1]; exact fun y => z y.symm
              rw [if_pos hz, if_neg z]
              simp [zck_b h4, zlt_v, hv]
          · intro g r k hh; unfold Tp T0 at hh; simp (discharger := omega) only [zu_ne]
          · intro i k hi; simp [zu, hi]
          · intro i k hi; simp [zu, hi]
          · unfold Rp1; simp [zu]; omega
          · intro g r k hh; unfold Tp T0 at hh; simp (discharger := omega) only [zu_ne]
        · rw [if_neg hb]
          generalize hv : zor s (zshl 1 k) = v at hbit
          refine ⟨if s = v then 0 else 1, zu S 0 0 10 x v, zu (zu (zu S 0 0 10 x v) 9 0 0 4 0) 5 0 4 x v, ?_, ?_, hR.person x ?_ ?_ ?_ ?_, ?_⟩
          · unfold zf_O_skill zf_O_skill_83
            rw [pf_P_has, zbd_s, if_pos hx, if_neg (by decide), if_neg (by omega), if_pos hk.2, zck_b h4, if_neg hg, zlt_v, zlt_v, if_neg (by decide), zck_b h4, zlt_v, hs, hv]
            split <;> rfl
          · have e5 : ∀ k i, zu (zu S 0 0 10 x v) 9 0 0 4 0 5 0 k i = S 5 0 k i := fun k i => by simp [zu]
            unfold zf_M_skill zf_M_skill_63 zf_M_skill_108
            rw [zlt_v, pf_M_isPerson _ (by rw [e5]; omega), zbd_s, e5, hn, if_pos hx, if_neg (by decide), pf_M_in, zbd_s, if_pos (show 0 ≤ k ∧ k ≤ 7 by omega), if_neg (by decide), zck_b h4, e5, q.2.2.2.2.1, if_neg hg, e5, hm4]
            by_cases z : s = v
            · have hz : zand (zshr s k) 1 = 1 := by rw [hbit.1]; exact z.symm
              rw [if_pos hz, if_pos z]
              simp [zck_b h4, zlt_v, hv]
            · have hz : ¬ zand (zshr s k) 1 = 1 := by rw [hbit.1]; exact fun y => z y.symm
              rw [if_neg hz, if_neg z]
              simp [zck_b h4, zlt_v, hv]
          · intro g r k hh; unfold Tp T0 at hh; simp (discharger := omega) only [zu_ne]
          · intro i k hi; simp [zu, hi]
          · intro i k hi; simp [zu, hi]
          · unfold Rp1; simp [zu]; omega
          · intro g r k hh; unfold Tp T0 at hh; simp (discharger := omega) only [zu_ne]
    · refine Pc.refused Tp0 hR (a := -1) ?_ ?_
      · unfold zf_O_skill
        rw [pf_P_has, zbd_s, if_pos hx, if_neg (by decide)]
        by_cases z : k < 0
        · rw [if_pos z]
        · rw [if_neg z, if_neg (by omega)]
      · unfold zf_M_skill
        rw [zlt_v, pf_M_isPerson _ (by rw [eS]; omega), zbd_s, eS, hn, if_pos hx, if_neg (by decide), pf_M_in, zbd_s, if_neg (show ¬ (0 ≤ k ∧ k ≤ 7) by omega), if_pos rfl]
  · refine Pc.refused Tp0 hR (a := -1) ?_ ?_
    · unfold zf_O_skill
      rw [pf_P_has, zbd_s, if_neg hx, if_pos rfl]
    · unfold zf_M_skill
      rw [zlt_v, pf_M_isPerson _ (by rw [eS]; omega), zbd_s, eS, hn, if_neg hx, if_pos rfl]
theorem Pc.same {S : Sg} {fo fm : Sg → Option (Int × Sg)} (h : Ria S 0 0) {a : Int} (h1 : fo S = some (a, S)) (h2 : fm S = some (a, zu S 9 0 0 4 0)) : Pc T0 S fo fm := ⟨a, S, _, h1, h2, h.none pi_0, pi_0⟩
theorem pc_home {S : Sg} (x w : Int) (hR : Ria S 0 0) : Pc T0 S (zf_O_home x w) (zf_M_home x w) := by
  have hho := hR.2.1
  have hpp := hR.2.2.1
  have eS : ∀ k i, zu S 9 0 0 4 0 5 0 k i = S 5 0 k i := fun k i => ng (by decide)
  by_cases hx : 0 ≤ x ∧ x < 12
  · have q := hho x hx.1 hx.2
    unfold Rh1 at q
    refine Pc.same hR (a := if w = 0 then sF (hdC S 0 x) 0 (S 0 0 6 0).toNat else if w = 1 then S 0 0 2 x else if w = 2 then S 0 0 3 x else if w = 3 then S 0 0 4 x else if w = 4 then S 0 0 5 x else -1) ?_ ?_
    · unfold zf_O_home
      rw [pf_O_isHouse, zbd_s, if_pos hx, if_neg (by decide), pf_P_headsOf hpp.2.1, zbd_s]
      simp only [zck_b hx]
      repeat' split
      all_goals rfl
    · have e9 : Rpp (zu S 9 0 0 4 0) 0 0 := (hR.none pi_0).2.2.1
      have e8 := hd_like (h := x) e9
      unfold zf_M_home
      rw [zlt_v, pf_M_isHouse, zbd_s, if_pos hx, if_neg (by decide), pf_W_heads (by rw [eS, hpp.1]; exact hpp.2.1), zbd_s, e8]
      simp only [zck_b hx, eS, q]
      have e7 : hdC (zu S 9 0 0 4 0) 0 x = hdC S 0 x := by funext j; simp [hdC, zu]
      rw [e7, show zu S 9 0 0 4 0 0 0 6 0 = S 0 0 6 0 from ng (by decide)]
      repeat' split
      all_goals rfl
  · refine Pc.same hR (a := -1) ?_ ?_
    · unfold zf_O_home
      rw [pf_O_isHouse, zbd_s, if_neg hx, if_pos rfl]
    · unfold zf_M_home
      rw [zlt_v, pf_M_isHouse, zbd_s, if_neg hx, if_pos rfl]
theorem ite_some {p : Prop} [Decidable p] {a b : Int} {S : Sg} : (if p then some (a, S) else some (b, S)) = some (if p then a else b, S) := by
  split <;> rfl
theorem pv_s (x : Int) (S : Sg) : (if 0 ≤ x then some (x, S) else some (-2, S)) = some (pv x, S) := by
  unfold pv
  by_cases q : 0 ≤ x
  · rw [if_pos q, if_neg (by omega)]
  · rw [if_neg q, if_pos (by omega)]
theorem pv_d {x : Int} : decide (0 ≤ pv x) = decide (0 ≤ x) := by
  unfold pv
  by_cases q : x < 0
  · rw [if_pos q]; simp; omega
  · rw [if_neg q]
theorem pc_about {S : Sg} (x w : Int) (hR : Ria S 0 0) : Pc T0 S (zf_O_about x w) (zf_M_about x w) := by
  have hw := hR.week
  obtain ⟨hn, hn2, hpp⟩ := hR.2.2.1
  have eS : ∀ k i, zu S 9 0 0 4 0 5 0 k i = S 5 0 k i := fun k i => ng (by decide)
  by_cases hx : 0 ≤ x ∧ x < S 0 0 6 0
  · have q := hpp x hx.1 hx.2
    unfold Rp1 at q
    have h4 : 0 ≤ x ∧ x < 40 := by omega
    refine Pc.same hR (a := if w = 0 then knd S 0 x (S 0 0 0 0) else if w = 1 then ageS (S 0 0 0 0) (S 0 0 7 x) else if w = 2 then S 0 0 8 x else if w = 3 then pv (S 0 0 9 x) else if w = 4 then S 0 0 10 x else if w = 5 then S 0 0 11 x else if w = 6 then S 0 0 13 x else if w = 7 then pv (S 0 0 14 x) else if w = 8 then needS (knd S 0 x (S 0 0 0 0)) (decide (0 ≤ S 0 0 14 x)) else if w = 9 then wageS (knd S 0 x (S 0 0 0 0)) (decide (0 ≤ S 0 0 14 x)) else if w = 10 then S 0 0 15 x else -1) ?_ ?_
    · unfold zf_O_about
      rw [pf_P_has, zbd_s, if_pos hx, if_neg (by decide), pf_P_kind h4 (by omega) (by omega), pf_P_age h4 (by omega) (by omega), pf_P_need h4 (by omega) (by omega), pf_P_wage h4 (by omega) (by omega)]
      simp only [zck_b h4, zbd_s, pv_s]
      simp only [ite_some]
      rfl
    · have e1 : kndM (zu S 9 0 0 4 0) 0 x = knd S 0 x (S 0 0 0 0) := by
        unfold kndM knd; simp only [eS, q, hw.1]
      unfold zf_M_about
      rw [zlt_v, pf_M_isPerson _ (by rw [eS]; omega), zbd_s, eS, hn, if_pos hx, if_neg (by decide), pf_W_kind h4 (by rw [eS]; omega) (by rw [eS]; omega), pf_W_age h4 (by rw [eS]; omega) (by rw [eS]; omega), pf_W_needOf h4 (by rw [eS]; omega) (by rw [eS]; omega), pf_W_wageOf h4 (by rw [eS]; omega) (by rw [eS]; omega), e1]
      simp only [zck_b h4, zbd_s, eS, q, hw.1, pv_d, ite_some]
      rfl
  · refine Pc.same hR (a := -1) ?_ ?_
    · unfold zf_O_about
      rw [pf_P_has, zbd_s, if_neg hx, if_pos rfl]
    · unfold zf_M_about
      rw [zlt_v, pf_M_isPerson _ (by rw [eS]; omega), zbd_s, eS, hn, if_neg hx, if_pos rfl]
