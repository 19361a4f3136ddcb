/-! ===== repeal; weather ===== -/
def Tl (g : Nat) (r k : Int) : Prop := T0 g r k ∨ (g = 0 ∧ r = 0 ∧ 16 ≤ k ∧ k ≤ 25) ∨ (g = 5 ∧ r = 0 ∧ 14 ≤ k ∧ k ≤ 20)
theorem Tl0 : ∀ g r k, T0 g r k → Tl g r k := fun _ _ _ q => Or.inl q
theorem Ria.laws {S S2 : Sg} (h : Ria S 0 0) (hf : Fr Tl S S2) : Ria S2 0 0 := by
  obtain ⟨h1, h2, h3, h4, h5, h6⟩ := h
  have e0 : ∀ k, k < 16 ∨ 25 < k → S2 0 0 k = S 0 0 k := fun k hk => hf _ _ _ (by unfold Tl T0; omega)
  have e5 : ∀ k, k < 14 ∨ 20 < k → S2 5 0 k = S 5 0 k := fun k hk => hf _ _ _ (by unfold Tl T0; omega)
  have eg : ∀ (g : Nat) (r k : Int), g ≠ 0 → g ≠ 5 → g ≠ 9 → S2 g r k = S g r k := fun g r k a b c => hf _ _ _ (by unfold Tl T0; omega)
  exact ⟨h1.to (e0 _ (by omega)) (e0 _ (by omega)) (e5 _ (by omega)) (e5 _ (by omega)) (fun i _ => by rw [e5 0 (by omega)]), h2.to (fun k _ _ => e0 _ (by omega)) (fun k _ _ => e5 _ (by omega)), h3.to (by rw [e0 0 (by omega)]) (fun k _ _ => e0 _ (by omega)) (fun k _ _ => e5 _ (by omega)) (by rw [e5 0 (by omega)]), h4.to (fun k _ _ => e0 _ (by omega)) (fun k _ _ => e5 _ (by omega)) (by rw [e5 0 (by omega)]), h5.to (fun k _ _ => e0 _ (by omega)) (fun k _ _ => e5 _ (by omega)) (by rw [e5 0 (by omega)]), h6.to (fun k _ _ => eg _ _ _ (by decide) (by decide) (by decide)) (fun k _ _ => eg _ _ _ (by decide) (by decide) (by decide)) (fun k _ _ => eg _ _ _ (by decide) (by decide) (by decide)) (e5 _ (by omega)) (e5 _ (by omega))⟩
/-- the call answers alike, keeps people, posts, stores, laws alike -/
def Pl (T : Nat → Int → Int → Prop) (S : Sg) (fo fm : Sg → Option (Int × Sg)) : Prop := ∃ (a : Int) (S1 S2 : Sg), fo S = some (a, S1) ∧ fm S1 = some (a, S2) ∧ Ria S2 0 0 ∧ Rla S2 S2 0 0 ∧ Fr T S S2
theorem Pl.refused {T : Nat → Int → Int → Prop} (hT : ∀ g r k, T0 g r k → T g r k) {S : Sg} {fo fm : Sg → Option (Int × Sg)} (h : Ria S 0 0) (hL : Rla S S 0 0) {a : Int} (h1 : fo S = some (a, S)) (h2 : fm S = some (a, zu S 9 0 0 4 0)) : Pl T S fo fm := ⟨a, S, _, h1, h2, h.none pi_0, hL.none pi_0, T0n hT pi_0⟩
theorem pl_repeal {S : Sg} (x : Int) (hR : Ria S 0 0) (hL : Rla S S 0 0) : Pl Tl S (zf_O_repeal x) (zf_M_repeal x) := by
  obtain ⟨hn, hn2, hl⟩ := id hL
  have hw := hR.week
  have eS := eSn S 0
  by_cases hx : 0 ≤ x ∧ x < S 0 0 16 0
  · have q := hl x hx.1 hx.2
    unfold Rl1 at q
    have h12 : 0 ≤ x ∧ x < 12 := by omega
    by_cases hv : S 0 0 21 x = 1
    · refine Pl.refused Tl0 hR hL (a := -3) ?_ ?_
      · unfold zf_O_repeal
        rw [pf_L_has, zbd_s, if_pos hx, if_neg (by decide), zck_b h12, if_pos hv]
      · unfold zf_M_repeal
        rw [zlt_v, pf_M_isLaw _ (by rw [eS]; omega), zbd_s, eS, hn, if_pos hx, if_neg (by decide), zck_b h12, eS, q.2.2.2.1, if_pos hv]
    · by_cases hr : S 0 0 22 x < 0
      · have hz : zw (S 0 0 0 0 + 1) = S 0 0 0 0 + 1 := zw_in (by omega) (by omega)
        have hp : pv (S 0 0 22 x) = -2 := by unfold pv; rw [if_pos hr]
        have hF : Fr Tl S (zu (zu (zu S 0 0 22 x (S 0 0 0 0 + 1)) 9 0 0 4 0) 5 0 20 x (S 0 0 0 0 + 1)) := by
          intro g r k hh; unfold Tl T0 at hh; simp (discharger := omega) only [zu_ne]
        refine ⟨1, zu S 0 0 22 x (S 0 0 0 0 + 1), zu (zu (zu S 0 0 22 x (S 0 0 0 0 + 1)) 9 0 0 4 0) 5 0 20 x (S 0 0 0 0 + 1), ?_, ?_, hR.laws hF, ⟨?_, ?_, ?_⟩, hF⟩
        · unfold zf_O_repeal
          rw [pf_L_has, zbd_s, if_pos hx, if_neg (by decide), zck_b h12, if_neg hv, if_pos hr, zlt_v, hz]
        · have e5 : ∀ k i, zu (zu S 0 0 22 x (S 0 0 0 0 + 1)) 9 0 0 4 0 5 0 k i = S 5 0 k i := fun k i => by simp [zu]
          unfold zf_M_repeal
          rw [zlt_v, pf_M_isLaw _ (by rw [e5]; omega), zbd_s, e5, hn, if_pos hx, if_neg (by decide), zck_b h12, e5, q.2.2.2.1, if_neg hv, e5, q.2.2.2.2.1, if_pos hp, zlt_v, e5, hw.1, hz]
        · simp [zu, hn]
        · simp [zu]; omega
        · intro l a b
          simp [zu] at b
          have p := hl l a b
          unfold Rl1 at p ⊢
          by_cases e : l = x
          · subst e
            simp [zu, pv] at p ⊢
            refine ⟨by omega, by omega, by omega, by omega, by omega, p.2.2.2.2.2.1, by omega, p.2.2.2.2.2.2.2.1, by omega, by omega, by omega, by omega, by omega, by omega, by omega, by omega, p.2.2.2.2.2.2.2.2.2.2.2.2.2.2.2.2⟩
          · simp [zu, e]
            exact p
      · have hp : ¬ pv (S 0 0 22 x) = -2 := by unfold pv; rw [if_neg hr]; omega
        refine Pl.refused Tl0 hR hL (a := -3) ?_ ?_
        · unfold zf_O_repeal
          rw [pf_L_has, zbd_s, if_pos hx, if_neg (by decide), zck_b h12, if_neg hv, if_neg hr]
        · unfold zf_M_repeal
          rw [zlt_v, pf_M_isLaw _ (by rw [eS]; omega), zbd_s, eS, hn, if_pos hx, if_neg (by decide), zck_b h12, eS, q.2.2.2.1, if_neg hv, eS, q.2.2.2.2.1, if_neg hp]
  · refine Pl.refused Tl0 hR hL (a := -1) ?_ ?_
    · unfold zf_O_repeal
      rw [pf_L_has, zbd_s, if_neg hx, if_pos rfl]
    · unfold zf_M_repeal
      rw [zlt_v, pf_M_isLaw _ (by rw [eS]; omega), zbd_s, eS, hn, if_neg hx, if_pos rfl]
def Tw (g : Nat) (r k : Int) : Prop := T0 g r k ∨ (g = 13 ∧ r = 0) ∨ (g = 14 ∧ r = 0) ∨ (g = 7 ∧ r = 0) ∨ (g = 5 ∧ r = 0 ∧ 32 ≤ k ∧ k ≤ 33)
theorem Tw0 : ∀ g r k, T0 g r k → Tw g r k := fun _ _ _ q => Or.inl q
theorem Ria.withSk {S S2 : Sg} (h : Ria S 0 0) (hf : Fr Tw S S2) (hx : Rsk S2 0 0) : Ria S2 0 0 := by
  obtain ⟨h1, h2, h3, h4, h5, h6⟩ := h
  have e0 : ∀ k, S2 0 0 k = S 0 0 k := fun k => hf _ _ _ (by unfold Tw T0; omega)
  have e5 : ∀ k, k < 32 ∨ 33 < k → S2 5 0 k = S 5 0 k := fun k hk => hf _ _ _ (by unfold Tw T0; omega)
  exact ⟨h1.to (e0 _) (e0 _) (e5 _ (by omega)) (e5 _ (by omega)) (fun i _ => by rw [e5 0 (by omega)]), h2.to (fun k _ _ => e0 _) (fun k _ _ => e5 _ (by omega)), h3.to (by rw [e0 0]) (fun k _ _ => e0 _) (fun k _ _ => e5 _ (by omega)) (by rw [e5 0 (by omega)]), h4.to (fun k _ _ => e0 _) (fun k _ _ => e5 _ (by omega)) (by rw [e5 0 (by omega)]), h5.to (fun k _ _ => e0 _) (fun k _ _ => e5 _ (by omega)) (by rw [e5 0 (by omega)]), hx⟩
theorem weather_1 {S : Sg} (d kk : Int) (hk : kk = 0 ∨ kk = 1) (hd : 0 ≤ d ∧ d < 8) (hR : Ria S 0 0) (hs : Rsh S) (h3 : S 2 d 0 0 = 3) : ∃ S1 S2, zf_Y_take 0 kk 2 d 1 120 (S 2 d 0 4) (S 2 d 0 5) S = some (0, S1) ∧ S1 2 d 0 5 = S 2 d 0 5 ∧ (∀ k i, zu S1 9 0 0 4 0 9 0 k i = zu S 9 0 0 4 0 9 0 k i) ∧ zf_M_weather_37 d kk (zu S1 9 0 0 4 0) = some (S 2 d 0 5, S2) ∧ Ria S2 0 0 ∧ Fr Tw S S2 := by
  have q := (hs d hd.1 hd.2)
  unfold Rs1 at q
  have q3 := q.2.2.1 h3
  have hk2 : 0 ≤ kk ∧ kk < 2 := by omega
  have hm : max 0 (min 120 (S 2 d 0 5)) = S 2 d 0 5 := by omega
  refine ⟨zcp (zu (zu S 13 0 kk 0 (S 2 d 0 4)) 13 0 kk 1 (S 2 d 0 5)) 2 d 1 0 14 0 kk 0 (S 2 d 0 5), zcp (zu (zu (zu (zcp (zu (zu S 13 0 kk 0 (S 2 d 0 4)) 13 0 kk 1 (S 2 d 0 5)) 2 d 1 0 14 0 kk 0 (S 2 d 0 5)) 9 0 0 4 0) 5 0 32 kk (S 2 d 0 4)) 5 0 33 kk (S 2 d 0 5)) 10 d 0 0 7 0 kk 0 120, ?_, ?_, ?_, ?_, ?_⟩
  · unfold zf_Y_take
    rw [zlt_v, zlt_v, hm, zu_at, zck_b (by simp; omega), zlt_v]
  · rw [zcp_nr (by omega), zu_ne (by omega), zu_ne (by omega)]
  · intro k i
    unfold zu zcp
    simp
  · have e9 : ∀ k i, ¬ k = 0 → zu (zcp (zu (zu S 13 0 kk 0 (S 2 d 0 4)) 13 0 kk 1 (S 2 d 0 5)) 2 d 1 0 14 0 kk 0 (S 2 d 0 5)) 9 0 0 4 0 9 0 k i = S 9 0 k i := fun k i hk => by rw [zu_ne (by omega), zcp_nr (by omega), zu_ne (by omega), zu_ne (by omega)]
    unfold zf_M_weather_37
    rw [zck_b hd, zck_b hk2, zlt_v, e9 2 d (by decide), q3.1, zlt_v, zu_ne (g' := 9) (by omega), e9 3 d (by decide), q3.2.1, zlt_v, zcp_nr (by omega), zu_ne (g' := 9) (by omega), zu_ne (g' := 9) (by omega), e9 3 d (by decide), q3.2.1]
  · have hF : Fr Tw S (zcp (zu (zu (zu (zcp (zu (zu S 13 0 kk 0 (S 2 d 0 4)) 13 0 kk 1 (S 2 d 0 5)) 2 d 1 0 14 0 kk 0 (S 2 d 0 5)) 9 0 0 4 0) 5 0 32 kk (S 2 d 0 4)) 5 0 33 kk (S 2 d 0 5)) 10 d 0 0 7 0 kk 0 120) := by
      intro g r k hh; unfold Tw T0 at hh; simp (discharger := omega) only [zu_ne, zcp_nr]
    refine ⟨hR.withSk hF ?_, hF⟩
    intro k a b
    have p := hR.2.2.2.2.2 k a b
    by_cases e : k = kk
    · subst e
      refine ⟨by simp [zu, zcp], by simp [zu, zcp], by simp [zu, zcp]; omega, by simp [zu, zcp]; omega, fun i c1 c2 => ?_⟩
      simp [zu, zcp] at c2
      have := q3.2.2.2.2 i c1 c2
      simp [zu, zcp, c1, c2, show i < 120 by omega, this]
    · simp [zu, zcp, e]
      exact p
theorem pc_weather {S : Sg} (d b : Int) (hR : Ria S 0 0) (hs : Rsh S) : Pc Tw S (zf_O_weather d (if b = 0 then 0 else 1)) (zf_M_weather d (if b = 0 then 0 else 1)) := by
  by_cases hd : 0 ≤ d ∧ d < 8
  · have q := hs d hd.1 hd.2
    unfold Rs1 at q
    have e91 : zu S 9 0 0 4 0 9 0 1 d = S 2 d 0 0 := by rw [nS (by omega), q.1]
    by_cases h0 : S 2 d 0 0 = 0
    · refine Pc.refused Tw0 hR (a := -11) ?_ ?_
      · unfold zf_O_weather
        rw [pf_O_isShelf, zbd_s, if_pos hd, if_neg (by decide), zck_b hd, if_pos h0]
      · unfold zf_M_weather
        rw [zlt_v, pf_M_isShelf, zbd_s, if_pos hd, if_neg (by decide), pf_M_noRow hd, zbd_s, e91, if_pos h0, if_neg (by decide), pf_M_noRow hd, zbd_s, e91, if_pos h0]
    · by_cases h3 : S 2 d 0 0 = 3
      · by_cases hb : b = 0
        · obtain ⟨S1, S2, e1, e2, e3, e4, e5, e6⟩ := weather_1 d 0 (Or.inl rfl) hd hR hs h3
          refine ⟨S 2 d 0 5, S1, S2, ?_, ?_, e5, e6⟩
          · unfold zf_O_weather
            rw [pf_O_isShelf, zbd_s, if_pos hd, if_neg (by decide), zck_b hd, if_neg h0, if_pos h3, if_pos hb, if_pos rfl, e1, zbd_s, e2]
          · unfold zf_M_weather
            rw [zlt_v, pf_M_isShelf, zbd_s, if_pos hd, if_neg (by decide), pf_M_noRow hd, zbd_s, e3, e91, if_neg h0, if_pos h3, if_pos rfl, if_pos hb, if_pos rfl, e4]
        · obtain ⟨S1, S2, e1, e2, e3, e4, e5, e6⟩ := weather_1 d 1 (Or.inr rfl) hd hR hs h3
          refine ⟨S 2 d 0 5, S1, S2, ?_, ?_, e5, e6⟩
          · unfold zf_O_weather
            rw [pf_O_isShelf, zbd_s, if_pos hd, if_neg (by decide), zck_b hd, if_neg h0, if_pos h3, if_neg hb, if_neg (by decide), e1, zbd_s, e2]
          · unfold zf_M_weather
            rw [zlt_v, pf_M_isShelf, zbd_s, if_pos hd, if_neg (by decide), pf_M_noRow hd, zbd_s, e3, e91, if_neg h0, if_pos h3, if_pos rfl, if_neg hb, if_neg (by decide), e4]
      · refine Pc.refused Tw0 hR (a := -12) ?_ ?_
        · unfold zf_O_weather
          rw [pf_O_isShelf, zbd_s, if_pos hd, if_neg (by decide), zck_b hd, if_neg h0, if_neg h3]
        · unfold zf_M_weather
          rw [zlt_v, pf_M_isShelf, zbd_s, if_pos hd, if_neg (by decide), pf_M_noRow hd, zbd_s, e91, if_neg h0, if_neg h3, if_neg (by decide), pf_M_noRow hd, zbd_s, e91, if_neg h0, if_neg h3]
  · refine Pc.refused Tw0 hR (a := -1) ?_ ?_
    · unfold zf_O_weather
      rw [pf_O_isShelf, zbd_s, if_neg hd, if_pos rfl]
    · unfold zf_M_weather
      rw [zlt_v, pf_M_isShelf, zbd_s, if_neg hd, if_pos rfl]
