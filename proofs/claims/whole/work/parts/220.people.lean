/-! ===== people and houses: the calls, class against reference ===== -/
theorem pf_O_isHouse (x : Int) (S : Sg) : zf_O_isHouse x S = some (if 0 ≤ x ∧ x < 12 then 1 else 0, S) := by
  unfold zf_O_isHouse
  split
  · rw [if_neg (by omega)]
  · split
    · rw [if_neg (by omega)]
    · rw [if_pos (by omega)]
theorem pf_M_isHouse (x : Int) (S : Sg) : zf_M_isHouse x S = some (if 0 ≤ x ∧ x < 12 then 1 else 0, S) := by
  unfold zf_M_isHouse
  rw [pf_M_in, zbd_s, zck_b (b01 _)]
  congr 2
  split
  · rw [if_pos (by omega)]
  · rw [if_neg (by omega)]
theorem pf_W_here {S : Sg} {r x : Int} (hx : 0 ≤ x ∧ x < 40) : zf_W_here r x S = some (if S 5 r 5 x = 0 then 1 else 0, S) := by
  unfold zf_W_here
  rw [zck_b hx]
  split <;> rfl
theorem pi_0 {S : Sg} {v : Int} : Fr T0 S (zu S 9 0 0 4 v) := fun g r k h => zu_ne h
theorem pc_death {S : Sg} (x : Int) (h : Ria S 0 0) : ∃ (a : Int) (S1 S2 : Sg), zf_O_death x S = some (a, S1) ∧ zf_M_death x S1 = some (a, S2) ∧ Ria S2 0 0 ∧ Fr Tp S S2 := by
  obtain ⟨hsc, -, ⟨hn, hn2, hpp⟩, -⟩ := id h
  have hw := hsc.2.2.2.2.2.2.2.1
  have hw2 := hsc.1
  by_cases hx : 0 ≤ x ∧ x < S 0 0 6 0
  · have q := hpp x hx.1 hx.2
    have hx4 : x < 40 := by omega
    have q' := q
    unfold Rp1 at q'
    by_cases hg : S 0 0 11 x = 2
    · refine ⟨-3, S, zu S 9 0 0 4 0, ?_, ?_, h.none pi_0, fun g r k hh => zu_ne (fun z => hh (Or.inl z))⟩
      · simp [zf_O_death, pf_P_has, zbd_s, hx, hx4, zck, hg]
      · have e := pf_M_isPerson (S := zu S 9 0 0 4 0) x (by simp [zu, hn, hn2])
        simp [zf_M_death, zlt_v, e, zbd_s, zck, zu, hn, hx, hx4, q', hg]
    · refine ⟨ageS (S 0 0 0 0) (S 0 0 7 x), zu S 0 0 11 x 2, zu (zu (zu S 0 0 11 x 2) 9 0 0 4 0) 5 0 5 x 2, ?_, ?_, h.person x ?_ ?_ ?_ ?_, ?_⟩
      · have e := pf_P_age (S := zu S 0 0 11 x 2) (r := 0) (x := x) (w := S 0 0 0 0) ⟨hx.1, hx4⟩ (by simp [zu]; omega) hw
        rw [show zu S 0 0 11 x 2 0 0 7 x = S 0 0 7 x by simp [zu]] at e
        simp [zf_O_death, pf_P_has, zbd_s, hx, hx4, zck, hg, zlt_v]
        rw [show zu S 0 0 11 x 2 0 0 0 0 = S 0 0 0 0 by simp [zu], e, zbd_s]
      · have e := pf_M_isPerson (S := zu (zu S 0 0 11 x 2) 9 0 0 4 0) x (by simp [zu, hn, hn2])
        have e2 := pf_W_age (S := zu (zu (zu S 0 0 11 x 2) 9 0 0 4 0) 5 0 5 x 2) (r := 0) (x := x) ⟨hx.1, hx4⟩ (by simp [zu]; omega) (by simp [zu]; omega)
        rw [show zu (zu (zu S 0 0 11 x 2) 9 0 0 4 0) 5 0 5 x 2 5 0 0 0 = S 0 0 0 0 by simp [zu, hw2], show zu (zu (zu S 0 0 11 x 2) 9 0 0 4 0) 5 0 5 x 2 5 0 1 x = S 0 0 7 x by simp [zu, q']] at e2
        rw [show zu (zu S 0 0 11 x 2) 9 0 0 4 0 5 0 0 1 = S 0 0 6 0 by simp [zu, hn], if_pos hx] at e
        unfold zf_M_death
        rw [zlt_v, e, zbd_s, if_neg (by decide), zck_b ⟨hx.1, hx4⟩, if_neg (by simp [zu, q', hg]), zlt_v, e2, zbd_s]
      · intro g r k hh
        unfold Tp T0 at hh
        simp (discharger := omega) only [zu_ne]
      · intro i k hi
        simp [zu, hi]
      · intro i k hi
        simp [zu, hi]
      · unfold Rp1
        simp [zu]
        omega
      · intro g r k hh
        unfold Tp T0 at hh
        simp (discharger := omega) only [zu_ne]
  · refine ⟨-1, S, zu S 9 0 0 4 0, ?_, ?_, h.none pi_0, fun g r k hh => zu_ne (fun z => hh (Or.inl z))⟩
    · simp [zf_O_death, pf_P_has, zbd_s, hx]
    · have e := pf_M_isPerson (S := zu S 9 0 0 4 0) x (by simp [zu, hn, hn2])
      simp [zf_M_death, zlt_v, e, zbd_s, zu, hn, hx]
theorem pf_O_areSkills (x : Int) (S : Sg) : zf_O_areSkills x S = some (if 0 ≤ x ∧ x < 256 then 1 else 0, S) := by
  unfold zf_O_areSkills
  split
  · rw [if_neg (by omega)]
  · split
    · rw [if_neg (by omega)]
    · rw [if_pos (by omega)]
theorem pf_O_mayBeBorn (x : Int) (S : Sg) : zf_O_mayBeBorn x S = some (if -5000 ≤ x ∧ x ≤ S 0 0 0 0 then 1 else 0, S) := by
  unfold zf_O_mayBeBorn
  split
  · rw [if_neg (by omega)]
  · split
    · rw [if_neg (by omega)]
    · rw [if_pos (by omega)]
theorem pf_M_isBirth (b h s : Int) (S : Sg) : zf_M_isBirth b h s S = some (if (-5000 ≤ b ∧ b ≤ S 5 0 0 0) ∧ (0 ≤ h ∧ h < 12) ∧ (0 ≤ s ∧ s < 256) then 1 else 0, S) := by
  unfold zf_M_isBirth
  simp only [pf_M_in, pf_M_isHouse, zbd_s]
  by_cases h1 : -5000 ≤ b ∧ b ≤ S 5 0 0 0
  · by_cases h2 : 0 ≤ h ∧ h < 12
    · by_cases h3 : 0 ≤ s ∧ s < 256
      · simp [h1, h2, h3, show s ≤ 255 by omega]
      · simp [h1, h2, h3, show ¬ (0 ≤ s ∧ s ≤ 255) by omega]
    · simp [h1, h2]
  · simp [h1]
/-- the call answers alike, and keeps what is alike; which rows it may change -/
def Pc (T : Nat → Int → Int → Prop) (S : Sg) (fo fm : Sg → Option (Int × Sg)) : Prop := ∃ (a : Int) (S1 S2 : Sg), fo S = some (a, S1) ∧ fm S1 = some (a, S2) ∧ Ria S2 0 0 ∧ Fr T S S2
theorem T0n {T : Nat → Int → Int → Prop} (hT : ∀ g r k, T0 g r k → T g r k) {S S2 : Sg} (h : Fr T0 S S2) : Fr T S S2 := fun g r k hh => h g r k (fun q => hh (hT g r k q))
theorem Pc.refused {T : Nat → Int → Int → Prop} (hT : ∀ g r k, T0 g r k → T g r k) {S : Sg} {fo fm : Sg → Option (Int × Sg)} (h : Ria S 0 0) {a : Int} (h1 : fo S = some (a, S)) (h2 : fm S = some (a, zu S 9 0 0 4 0)) : Pc T S fo fm := ⟨a, S, _, h1, h2, h.none pi_0, T0n hT pi_0⟩
theorem pc_person {S : Sg} (b h m s : Int) (hR : Ria S 0 0) : Pc Tn S (zf_O_person b h m s) (zf_M_person b h m s) := by
  obtain ⟨hsc, -, ⟨hn, hn2, hpp⟩, -⟩ := id hR
  have hw2 := hsc.1
  have hT : ∀ g r k, T0 g r k → Tn g r k := fun _ _ _ q => Or.inl q
  have e5 : zu S 9 0 0 4 0 5 0 0 0 = S 0 0 0 0 := by simp [zu, hw2]
  by_cases hb : (-5000 ≤ b ∧ b ≤ S 0 0 0 0) ∧ (0 ≤ h ∧ h < 12) ∧ (0 ≤ s ∧ s < 256)
  · by_cases hm : m = -1 ∨ (0 ≤ m ∧ m < S 0 0 6 0)
    · skip
      by_cases h4 : S 0 0 6 0 < 40
      · have hk := pcm_keep hR h4 hb.1 hb.2.1 (m := m) (by omega) hb.2.2 (e := -1) (by omega)
        refine ⟨S 0 0 6 0, cmO S b h m s (-1), _, ?_, ?_, hk⟩
        · have hp := pf_P_add (S := S) (b := b) (h := h) (m := m) (s := s) (e := -1) hn2.1
          rw [if_pos h4] at hp
          unfold zf_O_person zf_O_person_46
          simp only [pf_O_mayBeBorn, pf_O_isHouse, pf_O_areSkills, pf_P_has, zbd_s, if_pos hb.1, if_pos hb.2.1, if_pos hb.2.2]
          rcases hm with hm | hm
          · simp [hm] at hp ⊢; rw [hp, zbd_s]
          · simp [hm, show ¬ m = -1 by omega]; rw [hp, zbd_s]
        · have e1 : zu (cmO S b h m s (-1)) 9 0 0 4 0 5 0 0 1 = S 0 0 6 0 := by rw [← hn]; simp [cmO, zu]
          have e0 : zu (cmO S b h m s (-1)) 9 0 0 4 0 5 0 0 0 = S 0 0 0 0 := by rw [← hw2]; simp [cmO, zu]
          have hc := pf_M_comes (S := zu (cmO S b h m s (-1)) 9 0 0 4 0) (b := b) (h := h) (m := pv m) (s := s) (e := -1) (by rw [e1]; omega)
          rw [e1] at hc
          have ep2 := pf_M_isPerson (S := zu (cmO S b h m s (-1)) 9 0 0 4 0) m (by rw [e1]; exact hn2)
          rw [e1] at ep2
          unfold zf_M_person zf_M_person_31 zf_M_person_62
          rw [zlt_v, pf_M_isBirth, zbd_s, e0, if_pos hb, if_neg (by decide), ep2, zbd_s, e1, if_neg (show ¬ S 0 0 6 0 = 40 by omega)]
          rcases hm with hm | hm
          · rw [if_pos hm, if_pos hm]; rw [show pv m = -2 by rw [hm]; rfl] at hc; rw [hc, zbd_s, show pv m = -2 by rw [hm]; rfl]
          · rw [if_neg (show ¬ m = -1 by omega), if_pos hm, if_neg (by decide), if_neg (show ¬ m = -1 by omega)]; rw [show pv m = m by unfold pv; rw [if_neg (by omega)]] at hc; rw [hc, zbd_s, show pv m = m by unfold pv; rw [if_neg (by omega)]]
      · refine Pc.refused hT hR (a := -2) ?_ ?_
        · have hp := pf_P_add (S := S) (b := b) (h := h) (m := m) (s := s) (e := -1) hn2.1
          rw [if_neg h4] at hp
          unfold zf_O_person zf_O_person_46
          simp only [pf_O_mayBeBorn, pf_O_isHouse, pf_O_areSkills, pf_P_has, zbd_s, if_pos hb.1, if_pos hb.2.1, if_pos hb.2.2]
          rcases hm with hm | hm
          · simp [hm] at hp ⊢; rw [hp, zbd_s]
          · simp [hm, show ¬ m = -1 by omega]; rw [hp, zbd_s]
        · have e1 : zu S 9 0 0 4 0 5 0 0 1 = S 0 0 6 0 := by rw [← hn]; simp [zu]
          have ep2 := pf_M_isPerson (S := zu S 9 0 0 4 0) m (by rw [e1]; exact hn2)
          rw [e1] at ep2
          unfold zf_M_person zf_M_person_31
          rw [zlt_v, pf_M_isBirth, zbd_s, e5, if_pos hb, if_neg (by decide), ep2, zbd_s, e1, if_pos (show S 0 0 6 0 = 40 by omega)]
          rcases hm with hm | hm
          · rw [if_pos hm]
          · rw [if_neg (show ¬ m = -1 by omega), if_pos hm, if_neg (by decide)]
    · refine Pc.refused hT hR (a := -1) ?_ ?_
      · unfold zf_O_person
        simp only [pf_O_mayBeBorn, pf_O_isHouse, pf_O_areSkills, pf_P_has, zbd_s, if_pos hb.1, if_pos hb.2.1, if_pos hb.2.2, if_neg (show ¬ (0 ≤ m ∧ m < S 0 0 6 0) by omega)]
        simp [show ¬ m = -1 by omega]
      · have e1 : zu S 9 0 0 4 0 5 0 0 1 = S 0 0 6 0 := by rw [← hn]; simp [zu]
        unfold zf_M_person
        rw [zlt_v, pf_M_isBirth, zbd_s, e5, if_pos hb, if_neg (by decide), pf_M_isPerson _ (by rw [e1]; exact hn2), zbd_s, e1, if_neg (show ¬ m = -1 by omega), if_neg (show ¬ (0 ≤ m ∧ m < S 0 0 6 0) by omega), if_pos rfl]
  · refine Pc.refused hT hR (a := -1) ?_ ?_
    · unfold zf_O_person
      simp only [pf_O_mayBeBorn, pf_O_isHouse, pf_O_areSkills, zbd_s]
      by_cases h1 : -5000 ≤ b ∧ b ≤ S 0 0 0 0
      · by_cases h2 : 0 ≤ h ∧ h < 12
        · simp [h1, h2, show ¬ (0 ≤ s ∧ s < 256) from fun q => hb ⟨h1, h2, q⟩]
        · simp [h1, h2]
      · simp [h1]
    · unfold zf_M_person
      rw [zlt_v, pf_M_isBirth, zbd_s, e5, if_neg hb, if_pos rfl]
