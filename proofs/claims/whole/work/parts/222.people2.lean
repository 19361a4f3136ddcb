/-! ===== guest, birth, back, move, house, skill, about, home ===== -/
theorem Tn0 : ∀ g r k, T0 g r k → Tn g r k := fun _ _ _ q => Or.inl q
theorem Tp0 : ∀ g r k, T0 g r k → Tp g r k := fun _ _ _ q => Or.inl q
theorem Th0 : ∀ g r k, T0 g r k → Th g r k := fun _ _ _ q => Or.inl q
theorem Ria.week {S : Sg} {r w : Int} (h : Ria S r w) : S 5 w 0 0 = S 0 r 0 0 ∧ 0 ≤ S 0 r 0 0 ∧ S 0 r 0 0 ≤ 400 := ⟨h.1.1, h.1.2.2.2.2.2.2.2.1⟩
theorem pc_guest {S : Sg} (b h s e : Int) (hR : Ria S 0 0) : Pc Tn S (zf_O_guest b h s e) (zf_M_guest b h s e) := by
  have hw := hR.week
  obtain ⟨hn, hn2, -⟩ := hR.2.2.1
  have e5 : zu S 9 0 0 4 0 5 0 0 0 = S 0 0 0 0 := by simp [zu, hw.1]
  by_cases hb : (-5000 ≤ b ∧ b ≤ S 0 0 0 0) ∧ (0 ≤ h ∧ h < 12) ∧ (0 ≤ s ∧ s < 256)
  · by_cases he : S 0 0 0 0 ≤ e ∧ e ≤ 400
    · have hp := pf_P_add (S := S) (b := b) (h := h) (m := -1) (s := s) (e := e) hn2.1
      by_cases h4 : S 0 0 6 0 < 40
      · have hk := pcm_keep hR h4 hb.1 hb.2.1 (m := -1) (by omega) hb.2.2 (e := e) (by omega)
        refine ⟨S 0 0 6 0, cmO S b h (-1) s e, _, ?_, ?_, hk⟩
        · rw [if_pos h4] at hp
          unfold zf_O_guest
          rw [pf_O_mayBeBorn, zbd_s, if_pos hb.1, if_neg (by decide), pf_O_isHouse, zbd_s, if_pos hb.2.1, if_neg (by decide), pf_O_areSkills, zbd_s, if_pos hb.2.2, if_neg (by decide), if_neg (by omega), if_pos he.2, hp, zbd_s]
        · have e1 : zu (cmO S b h (-1) s e) 9 0 0 4 0 5 0 0 1 = S 0 0 6 0 := by rw [← hn]; simp [cmO, zu]
          have e0 : zu (cmO S b h (-1) s e) 9 0 0 4 0 5 0 0 0 = S 0 0 0 0 := by rw [← hw.1]; simp [cmO, zu]
          have hc := pf_M_comes (S := zu (cmO S b h (-1) s e) 9 0 0 4 0) (b := b) (h := h) (m := -2) (s := s) (e := e) (by rw [e1]; omega)
          rw [e1] at hc
          unfold zf_M_guest
          rw [zlt_v, pf_M_isBirth, zbd_s, e0, if_pos hb, if_neg (by decide), pf_M_in, zbd_s, if_pos he, if_neg (by decide), e1, if_neg (by omega), hc, zbd_s]
          rfl
      · rw [if_neg h4] at hp
        refine Pc.refused Tn0 hR (a := -2) ?_ ?_
        · unfold zf_O_guest
          rw [pf_O_mayBeBorn, zbd_s, if_pos hb.1, if_neg (by decide), pf_O_isHouse, zbd_s, if_pos hb.2.1, if_neg (by decide), pf_O_areSkills, zbd_s, if_pos hb.2.2, if_neg (by decide), if_neg (by omega), if_pos he.2, hp, zbd_s]
        · have e1 : zu S 9 0 0 4 0 5 0 0 1 = S 0 0 6 0 := by rw [← hn]; simp [zu]
          unfold zf_M_guest
          rw [zlt_v, pf_M_isBirth, zbd_s, e5, if_pos hb, if_neg (by decide), pf_M_in, zbd_s, if_pos he, if_neg (by decide), e1, if_pos (by omega)]
    · refine Pc.refused Tn0 hR (a := -1) ?_ ?_
      · unfold zf_O_guest
        rw [pf_O_mayBeBorn, zbd_s, if_pos hb.1, if_neg (by decide), pf_O_isHouse, zbd_s, if_pos hb.2.1, if_neg (by decide), pf_O_areSkills, zbd_s, if_pos hb.2.2, if_neg (by decide)]
        by_cases q : e < S 0 0 0 0
        · rw [if_pos q]
        · rw [if_neg q, if_neg (by omega)]
      · unfold zf_M_guest
        rw [zlt_v, pf_M_isBirth, zbd_s, e5, if_pos hb, if_neg (by decide), pf_M_in, zbd_s, if_neg he, if_pos rfl]
  · refine Pc.refused Tn0 hR (a := -1) ?_ ?_
    · unfold zf_O_guest
      simp only [pf_O_mayBeBorn, pf_O_isHouse, pf_O_areSkills, zbd_s]
      by_cases h1 : -5000 ≤ b ∧ b ≤ S 0 0 0 0
      · by_cases h2 : 0 ≤ h ∧ h < 12
        · simp [h1, h2, show ¬ (0 ≤ s ∧ s < 256) from fun q => hb ⟨h1, h2, q⟩]
        · simp [h1, h2]
      · simp [h1]
    · unfold zf_M_guest
      rw [zlt_v, pf_M_isBirth, zbd_s, e5, if_neg hb, if_pos rfl]
theorem ng {S : Sg} {v : Int} {g : Nat} {r k i : Int} (hg : g ≠ 9) : zu S 9 0 0 4 v g r k i = S g r k i := if_neg (fun q => hg q.1)
theorem pc_birth {S : Sg} (m : Int) (hR : Ria S 0 0) : Pc Tn S (zf_O_birth m) (zf_M_birth m) := by
  have hw := hR.week
  obtain ⟨hn, hn2, hpp⟩ := hR.2.2.1
  by_cases hx : 0 ≤ m ∧ m < S 0 0 6 0
  · have q := hpp m hx.1 hx.2
    unfold Rp1 at q
    have h4m : 0 ≤ m ∧ m < 40 := by omega
    by_cases h4 : S 0 0 6 0 < 40
    · have hk := pf_P_kind (S := S) (r := 0) (x := m) (w := S 0 0 0 0) h4m (by omega) (by omega)
      have hk2 : ∀ S' : Sg, (∀ k i, S' 5 0 k i = S 5 0 k i) → zf_W_kind 0 m S' = some (kindS (S 0 0 11 m) (S 0 0 12 m) (S 0 0 7 m) (S 0 0 10 m) (S 0 0 0 0), S') := by
        intro S' hS
        rw [pf_W_kind h4m (by rw [hS]; omega) (by rw [hS]; omega)]
        simp only [hS, q, hw.1]
      generalize hK : kindS (S 0 0 11 m) (S 0 0 12 m) (S 0 0 7 m) (S 0 0 10 m) (S 0 0 0 0) = K at hk hk2
      by_cases hKK : K = 0 ∨ K = 2
      · have hk9 := pcm_keep hR h4 (b := S 0 0 0 0) (by omega) (h := S 0 0 8 m) (by omega) (m := m) (by omega) (s := 0) (by omega) (e := -1) (by omega)
        have hp := pf_P_add (S := S) (b := S 0 0 0 0) (h := S 0 0 8 m) (m := m) (s := 0) (e := -1) hn2.1
        rw [if_pos h4] at hp
        refine ⟨S 0 0 6 0, cmO S (S 0 0 0 0) (S 0 0 8 m) m 0 (-1), _, ?_, ?_, hk9⟩
        · unfold zf_O_birth zf_O_birth_65
          rw [pf_P_has, zbd_s, if_pos hx, if_neg (by decide), if_pos h4, hk, zbd_s]
          rcases hKK with z | z
          · rw [if_pos z, zck_b h4m, hp, zbd_s]
          · rw [if_neg (by omega), if_pos z, zck_b h4m, hp, zbd_s]
        · have eS : ∀ k i, zu (cmO S (S 0 0 0 0) (S 0 0 8 m) m 0 (-1)) 9 0 0 4 0 5 0 k i = S 5 0 k i := fun k i => by simp [cmO, zu]
          have hc := pf_M_comes (S := zu (cmO S (S 0 0 0 0) (S 0 0 8 m) m 0 (-1)) 9 0 0 4 0) (b := S 0 0 0 0) (h := S 0 0 8 m) (m := m) (s := 0) (e := -1) (by rw [eS]; omega)
          rw [eS, hn] at hc
          unfold zf_M_birth zf_M_birth_51
          rw [zlt_v, pf_M_isPerson _ (by rw [eS]; omega), zbd_s, eS, hn, if_pos hx, if_neg (by decide), if_neg (by omega), hk2 _ eS, zbd_s, show pv m = m by unfold pv; rw [if_neg (by omega)]]
          rcases hKK with z | z
          · rw [if_pos z, zck_b h4m, eS, eS, hw.1, q.2.1, hc, zbd_s]
          · rw [if_neg (by omega), if_pos z, zck_b h4m, eS, eS, hw.1, q.2.1, hc, zbd_s]
      · refine Pc.refused Tn0 hR (a := -3) ?_ ?_
        · unfold zf_O_birth
          rw [pf_P_has, zbd_s, if_pos hx, if_neg (by decide), if_pos h4, hk, zbd_s, if_neg (by omega), if_neg (by omega)]
        · have eS : ∀ k i, zu S 9 0 0 4 0 5 0 k i = S 5 0 k i := fun k i => ng (by decide)
          unfold zf_M_birth
          rw [zlt_v, pf_M_isPerson _ (by rw [eS]; omega), zbd_s, eS, hn, if_pos hx, if_neg (by decide), if_neg (by omega), hk2 _ eS, zbd_s, if_neg (by omega), if_neg (by omega)]
    · refine Pc.refused Tn0 hR (a := -2) ?_ ?_
      · unfold zf_O_birth
        rw [pf_P_has, zbd_s, if_pos hx, if_neg (by decide), if_neg h4]
      · have eS : ∀ k i, zu S 9 0 0 4 0 5 0 k i = S 5 0 k i := fun k i => ng (by decide)
        unfold zf_M_birth
        rw [zlt_v, pf_M_isPerson _ (by rw [eS]; omega), zbd_s, eS, hn, if_pos hx, if_neg (by decide), if_pos (by omega)]
  · refine Pc.refused Tn0 hR (a := -1) ?_ ?_
    · unfold zf_O_birth
      rw [pf_P_has, zbd_s, if_neg hx, if_pos rfl]
    · have eS : ∀ k i, zu S 9 0 0 4 0 5 0 k i = S 5 0 k i := fun k i => ng (by decide)
      unfold zf_M_birth
      rw [zlt_v, pf_M_isPerson _ (by rw [eS]; omega), zbd_s, eS, hn, if_neg hx, if_pos rfl]
theorem pc_back {S : Sg} (x : Int) (hR : Ria S 0 0) : Pc Tp S (zf_O_back x) (zf_M_back x) := by
  have hw := hR.week
  obtain ⟨hn, hn2, hpp⟩ := hR.2.2.1
  have eS : ∀ k i, zu S 9 0 0 4 0 5 0 k i = S 5 0 k i := fun k i => ng (by decide)
  by_cases hx : 0 ≤ x ∧ x < S 0 0 6 0
  · have q := hpp x hx.1 hx.2
    unfold Rp1 at q
    have h4 : 0 ≤ x ∧ x < 40 := by omega
    by_cases hg : S 0 0 11 x = 1
    · refine ⟨ageS (S 0 0 0 0) (S 0 0 7 x), zu (zu S 0 0 11 x 0) 0 0 13 x 0, zu (zu (zu (zu (zu S 0 0 11 x 0) 0 0 13 x 0) 9 0 0 4 0) 5 0 5 x 0) 5 0 7 x 0, ?_, ?_, hR.person x ?_ ?_ ?_ ?_, ?_⟩
      · unfold zf_O_back
        rw [pf_P_has, zbd_s, if_pos hx, if_neg (by decide), zck_b h4, if_pos hg, zlt_v, zlt_v, pf_P_age h4 (by simp [zu]; omega) (by simp [zu]; omega), zbd_s]
        simp [zu]
      · have e5 : ∀ k i, zu (zu (zu S 0 0 11 x 0) 0 0 13 x 0) 9 0 0 4 0 5 0 k i = S 5 0 k i := fun k i => by simp [zu]
        unfold zf_M_back
        rw [zlt_v, pf_M_isPerson _ (by rw [e5]; omega), zbd_s, e5, hn, if_pos hx, if_neg (by decide), zck_b h4, e5, q.2.2.2.2.1, if_pos hg, zlt_v, zlt_v, pf_W_age h4 (by simp [zu]; omega) (by simp [zu]; omega), zbd_s]
        simp [zu, hw.1, q.1]
      · intro g r k hh; unfold Tp T0 at hh; simp (discharger := omega) only [zu_ne]
      · intro i k hi; simp [zu, hi]
      · intro i k hi; simp [zu, hi]
      · unfold Rp1; simp [zu]; omega
      · intro g r k hh; unfold Tp T0 at hh; simp (discharger := omega) only [zu_ne]
    · refine Pc.refused Tp0 hR (a := -3) ?_ ?_
      · unfold zf_O_back
        rw [pf_P_has, zbd_s, if_pos hx, if_neg (by decide), zck_b h4, if_neg hg]
      · unfold zf_M_back
        rw [zlt_v, pf_M_isPerson _ (by rw [eS]; omega), zbd_s, eS, hn, if_pos hx, if_neg (by decide), zck_b h4, eS, q.2.2.2.2.1, if_neg hg]
  · refine Pc.refused Tp0 hR (a := -1) ?_ ?_
    · unfold zf_O_back
      rw [pf_P_has, zbd_s, if_neg hx, if_pos rfl]
    · unfold zf_M_back
      rw [zlt_v, pf_M_isPerson _ (by rw [eS]; omega), zbd_s, eS, hn, if_neg hx, if_pos rfl]
theorem pc_move {S : Sg} (x h : Int) (hR : Ria S 0 0) : Pc Tp S (zf_O_move x h) (zf_M_move x h) := by
  obtain ⟨hn, hn2, hpp⟩ := hR.2.2.1
  have eS : ∀ k i, zu S 9 0 0 4 0 5 0 k i = S 5 0 k i := fun k i => ng (by decide)
  by_cases hx : 0 ≤ x ∧ x < S 0 0 6 0
  · have q := hpp x hx.1 hx.2
    unfold Rp1 at q
    have h4 : 0 ≤ x ∧ x < 40 := by omega
    by_cases hh : 0 ≤ h ∧ h < 12
    · by_cases hg : S 0 0 11 x = 0
      · refine ⟨S 0 0 8 x, zu S 0 0 8 x h, zu (zu (zu S 0 0 8 x h) 9 0 0 4 0) 5 0 2 x h, ?_, ?_, hR.person x ?_ ?_ ?_ ?_, ?_⟩
        · unfold zf_O_move
          rw [pf_P_has, zbd_s, if_pos hx, if_neg (by decide), pf_O_isHouse, zbd_s, if_pos hh, if_neg (by decide), zck_b h4, if_pos hg, zlt_v, zlt_v]
        · have e5 : ∀ k i, zu (zu S 0 0 8 x h) 9 0 0 4 0 5 0 k i = S 5 0 k i := fun k i => by simp [zu]
          unfold zf_M_move
          rw [zlt_v, pf_M_isPerson _ (by rw [e5]; omega), zbd_s, e5, hn, if_pos hx, if_neg (by decide), pf_M_isHouse, zbd_s, if_pos hh, if_neg (by decide), pf_W_here h4, zbd_s, e5, q.2.2.2.2.1, if_pos hg, if_neg (by decide), zck_b h4, zlt_v, zlt_v, e5, q.2.1]
        · intro g r k hh; unfold Tp T0 at hh; simp (discharger := omega) only [zu_ne]
        · intro i k hi; simp [zu, hi]
        · intro i k hi; simp [zu, hi]
        · unfold Rp1; simp [zu]; omega
        · intro g r k hh; unfold Tp T0 at hh; simp (discharger := omega) only [zu_ne]
      · refine Pc.refused Tp0 hR (a := -3) ?_ ?_
        · unfold zf_O_move
          rw [pf_P_has, zbd_s, if_pos hx, if_neg (by decide), pf_O_isHouse, zbd_s, if_pos hh, if_neg (by decide), zck_b h4, if_neg hg]
        · unfold zf_M_move
          rw [zlt_v, pf_M_isPerson _ (by rw [eS]; omega), zbd_s, eS, hn, if_pos hx, if_neg (by decide), pf_M_isHouse, zbd_s, if_pos hh, if_neg (by decide), pf_W_here h4, zbd_s, eS, q.2.2.2.2.1, if_neg hg, if_pos rfl]
    · refine Pc.refused Tp0 hR (a := -1) ?_ ?_
      · unfold zf_O_move
        rw [pf_P_has, zbd_s, if_pos hx, if_neg (by decide), pf_O_isHouse, zbd_s, if_neg hh, if_pos rfl]
      · unfold zf_M_move
        rw [zlt_v, pf_M_isPerson _ (by rw [eS]; omega), zbd_s, eS, hn, if_pos hx, if_neg (by decide), pf_M_isHouse, zbd_s, if_neg hh, if_pos rfl]
  · refine Pc.refused Tp0 hR (a := -1) ?_ ?_
    · unfold zf_O_move
      rw [pf_P_has, zbd_s, if_neg hx, if_pos rfl]
    · unfold zf_M_move
      rw [zlt_v, pf_M_isPerson _ (by rw [eS]; omega), zbd_s, eS, hn, if_neg hx, if_pos rfl]
