/-! ===== rank, set, pays, earn ===== -/
theorem pc_rank {S : Sg} (x w y : Int) (hR : Ria S 0 0) : Pc Ts S (zf_O_rank x w y) (zf_M_rank x w y) := by
  obtain ⟨hg, hn, hn2, hpp⟩ := hR.2.2.2.2.1
  have eS := eSn S 0
  by_cases hx : 0 ≤ x ∧ x < 4
  · have q := hg x hx.1 hx.2
    unfold Rg1 at q
    by_cases hw : w = 0 ∧ 0 ≤ y ∧ y ≤ 9
    · obtain ⟨hw, hy⟩ := hw
      subst hw
      refine ⟨S 0 0 33 x, zu S 0 0 33 x y, zu (zu (zu S 0 0 33 x y) 9 0 0 4 0) 5 0 26 x y, ?_, ?_, hR.withSt ?_ ?_ ⟨?_, ?_, ?_, ?_⟩, ?_⟩
      · unfold zf_O_rank
        rw [pf_O_isGood, zbd_s, if_pos hx, if_neg (by decide), if_pos hy.1, if_pos rfl, if_neg (by omega), zck_b hx, zlt_v, zlt_v]
      · have e5 : ∀ k i, zu (zu S 0 0 33 x y) 9 0 0 4 0 5 0 k i = S 5 0 k i := fun k i => by simp [zu]
        unfold zf_M_rank zf_M_rank_34 zf_M_rank_51
        rw [zlt_v, pf_M_isGood, zbd_s, if_pos hx, if_neg (by decide), pf_M_in, zbd_s, if_pos (show (0 : Int) ≤ 0 ∧ (0 : Int) ≤ 1 by decide), if_neg (by decide), if_pos rfl, pf_M_in, zbd_s, if_pos hy, if_neg (by decide), if_neg (by decide), if_pos rfl, zck_b hx, zlt_v, zlt_v, e5, q.2.1]
      · intro g r k hh; unfold Ts T0 at hh; simp (discharger := omega) only [zu_ne]
      · intro i hi; simp [zu]
      · intro i a c
        have := hg i a c
        unfold Rg1 at this ⊢
        by_cases e : i = x
        · simp [zu, e] at this ⊢; omega
        · simp [zu, e]; omega
      · simp [zu, hn]
      · simp [zu]; omega
      · intro i a c
        simp [zu] at c
        have := hpp i a c
        unfold Ro1 at this ⊢
        simp [zu]; omega
      · intro g r k hh; unfold Ts T0 at hh; simp (discharger := omega) only [zu_ne]
    · by_cases hw2 : w = 1 ∧ (0 ≤ y ∧ y ≤ 99) ∧ ¬ x = 0
      · obtain ⟨hw2, hy, hx0⟩ := hw2
        subst hw2
        refine ⟨S 0 0 34 x, zu S 0 0 34 x y, zu (zu (zu S 0 0 34 x y) 9 0 0 4 0) 5 0 27 x y, ?_, ?_, hR.withSt ?_ ?_ ⟨?_, ?_, ?_, ?_⟩, ?_⟩
        · unfold zf_O_rank zf_O_rank_53
          rw [pf_O_isGood, zbd_s, if_pos hx, if_neg (by decide), if_pos hy.1, if_neg (by decide), if_pos rfl, if_neg (by omega), if_neg hx0, zck_b hx, zlt_v, zlt_v]
        · have e5 : ∀ k i, zu (zu S 0 0 34 x y) 9 0 0 4 0 5 0 k i = S 5 0 k i := fun k i => by simp [zu]
          unfold zf_M_rank zf_M_rank_34 zf_M_rank_51
          rw [zlt_v, pf_M_isGood, zbd_s, if_pos hx, if_neg (by decide), pf_M_in, zbd_s, if_pos (show (0 : Int) ≤ 1 ∧ (1 : Int) ≤ 1 by decide), if_neg (by decide), if_neg (by decide), pf_M_in, zbd_s, if_pos hy, if_neg (by decide), if_pos rfl, if_neg hx0, if_neg (by decide), zck_b hx, zlt_v, zlt_v, e5, q.2.2.1]
        · intro g r k hh; unfold Ts T0 at hh; simp (discharger := omega) only [zu_ne]
        · intro i hi; simp [zu]
        · intro i a c
          have := hg i a c
          unfold Rg1 at this ⊢
          by_cases e : i = x
          · simp [zu, e] at this ⊢; omega
          · simp [zu, e]; omega
        · simp [zu, hn]
        · simp [zu]; omega
        · intro i a c
          simp [zu] at c
          have := hpp i a c
          unfold Ro1 at this ⊢
          simp [zu]; omega
        · intro g r k hh; unfold Ts T0 at hh; simp (discharger := omega) only [zu_ne]
      · refine Pc.refused Ts0 hR (a := -1) ?_ ?_
        · unfold zf_O_rank zf_O_rank_53
          rw [pf_O_isGood, zbd_s, if_pos hx, if_neg (by decide)]
          repeat' split
          all_goals first | rfl | omega
        · unfold zf_M_rank zf_M_rank_34
          rw [zlt_v, pf_M_isGood, zbd_s, if_pos hx, if_neg (by decide), pf_M_in, zbd_s]
          by_cases h1 : w = 0
          · rw [if_pos (show 0 ≤ w ∧ w ≤ 1 by omega), if_neg (by decide), if_pos h1, pf_M_in, zbd_s, if_neg (show ¬ (0 ≤ y ∧ y ≤ 9) by omega), if_pos rfl]
          · by_cases h2 : w = 1
            · rw [if_pos (show 0 ≤ w ∧ w ≤ 1 by omega), if_neg (by decide), if_neg h1, pf_M_in, zbd_s]
              by_cases h3 : 0 ≤ y ∧ y ≤ 99
              · rw [if_pos h3, if_neg (by decide), if_pos h2, if_pos (show x = 0 by omega)]
              · rw [if_neg h3, if_pos rfl]
            · rw [if_neg (show ¬ (0 ≤ w ∧ w ≤ 1) by omega), if_pos rfl]
  · refine Pc.refused Ts0 hR (a := -1) ?_ ?_
    · unfold zf_O_rank
      rw [pf_O_isGood, zbd_s, if_neg hx, if_pos rfl]
    · unfold zf_M_rank
      rw [zlt_v, pf_M_isGood, zbd_s, if_neg hx, if_pos rfl]
def stL (x : Int) : Int := if x = 3 then 1 else 0
def stM (x : Int) : Int := if x = 0 then 500 else if x = 1 then 9999 else 99
theorem zf2_at {x : Int} (h : 0 ≤ x ∧ x < 4) : zf2 x.toNat = stL x := by
  unfold zf2 stL
  by_cases e : x = 3
  · rw [if_pos e, if_pos (by omega)]
  · rw [if_neg e, if_neg (by omega)]
theorem zf3_at {x : Int} (h : 0 ≤ x ∧ x < 4) : zf3 x.toNat = stM x := by
  unfold zf3 stM
  by_cases e : x = 0
  · rw [if_pos e, if_pos (by omega)]
  · by_cases e1 : x = 1
    · rw [if_neg e, if_neg (by omega), if_pos e1, if_pos (by omega)]
    · rw [if_neg e, if_neg (by omega), if_neg e1, if_neg (by omega)]
theorem pc_set {S : Sg} (x y : Int) (hR : Ria S 0 0) : Pc Tc S (zf_O_set x y) (zf_M_set x y) := by
  have hsc := hR.1
  have eS := eSn S 0
  by_cases hb : (0 ≤ x ∧ x < 4) ∧ (stL x ≤ y ∧ y ≤ stM x)
  · obtain ⟨hx, hy⟩ := hb
    have hs4 := hsc.2.2.2.2.2.2.2.2.2.2.2.2.2.2.2.1 x hx.1 hx.2
    refine ⟨S 0 0 1 x, zu S 0 0 1 x y, zu (zu (zu S 0 0 1 x y) 9 0 0 4 0) 5 0 30 x y, ?_, ?_, hR.withSc ?_ ?_ ?_ ?_, ?_⟩
    · unfold zf_O_set
      rw [if_neg (by omega), if_neg (by omega), zck_b hx, zf2_at hx, zf3_at hx, if_neg (by omega), if_pos hy.2, zlt_v, zlt_v]
    · have e5 : ∀ k i, zu (zu S 0 0 1 x y) 9 0 0 4 0 5 0 k i = S 5 0 k i := fun k i => by simp [zu]
      unfold zf_M_set zf_M_set_70 zf_M_set_71
      simp only [zlt_v, pf_M_in, zbd_s, zck_b hx, e5, hs4]
      unfold stL stM at hy
      have hc : x = 0 ∨ x = 1 ∨ x = 2 ∨ x = 3 := by omega
      rcases hc with h | h | h | h <;> subst h <;> simp at hy ⊢ <;> omega
    · intro g r k hh; unfold Tc T0 at hh; simp (discharger := omega) only [zu_ne]
    · simp [zu]
    · intro i hi; simp [zu]
    · unfold Rsc at hsc ⊢
      obtain ⟨a1, a2, a3, a4, a5, a6, a7, a8, a9, a10, a11, a12, a13, a14, a15, a16, a17, a18, a19, a20⟩ := hsc
      unfold stL stM at hy
      refine ⟨by simp [zu, a1], by simp [zu, a2], by simp [zu, a3], by simp [zu, a4], by simp [zu, a5], by simp [zu, a6], by simp [zu, a7], by simp [zu]; omega, by simp [zu]; omega, by simp [zu]; omega, by simp [zu]; omega, ?_, by simp [zu, a13], by simp [zu, a14], by simp [zu, a15], ?_, ?_⟩
      · intro i b1 b2; have := a12 i b1 b2; simp [zu]; omega
      · intro i b1 b2
        have := a16 i b1 b2
        by_cases e : i = x
        · simp [zu, e]
        · simp [zu, e, this]
      · have hc : x = 0 ∨ x = 1 ∨ x = 2 ∨ x = 3 := by omega
        rcases hc with h | h | h | h <;> subst h <;> simp at hy <;> simp [zu] <;> omega
    · intro g r k hh; unfold Tc T0 at hh; simp (discharger := omega) only [zu_ne]
  · refine Pc.refused Tc0 hR (a := -1) ?_ ?_
    · unfold zf_O_set
      by_cases hx : 0 ≤ x ∧ x < 4
      · rw [if_neg (by omega), if_neg (by omega), zck_b hx, zf2_at hx, zf3_at hx]
        by_cases h1 : y < stL x
        · rw [if_pos h1]
        · rw [if_neg h1, if_neg (fun q => hb ⟨hx, by omega, q⟩)]
      · by_cases h1 : x < 0
        · rw [if_pos h1]
        · rw [if_neg h1, if_pos (by omega)]
    · unfold zf_M_set zf_M_set_70 zf_M_set_71
      simp only [zlt_v, pf_M_in, zbd_s]
      unfold stL stM at hb
      by_cases h0 : x = 0
      · subst h0; simp at hb ⊢; intros; omega
      · by_cases h1 : x = 1
        · subst h1; simp at hb ⊢; intros; omega
        · by_cases h2 : x = 2
          · subst h2; simp at hb ⊢; intros; omega
          · by_cases h3 : x = 3
            · subst h3; simp at hb ⊢; intros; omega
            · simp [h0, h1, h2, h3]
theorem pc_earn {S : Sg} (y : Int) (hR : Ria S 0 0) : Pc Tc S (zf_O_earn y) (zf_M_earn y) := by
  have hsc := hR.1
  have eS := eSn S 0
  have hp := hsc.2.1
  have hp2 := hsc.2.2.2.2.2.2.2.2.1
  by_cases hy : 1 ≤ y ∧ y ≤ 10000
  · have hz : zw (S 0 0 0 1 + y) = S 0 0 0 1 + y := zw_in (by omega) (by omega)
    by_cases h9 : S 0 0 0 1 + y ≤ 1000000
    · refine ⟨S 0 0 0 1 + y, zu S 0 0 0 1 (S 0 0 0 1 + y), zu (zu (zu S 0 0 0 1 (S 0 0 0 1 + y)) 9 0 0 4 0) 5 0 0 38 (S 0 0 0 1 + y), ?_, ?_, hR.withSc ?_ ?_ ?_ ?_, ?_⟩
      · unfold zf_O_earn
        rw [if_neg (by omega), if_pos hy.2, hz, if_pos h9, zlt_v, zu_at]
      · have e5 : ∀ k i, zu (zu S 0 0 0 1 (S 0 0 0 1 + y)) 9 0 0 4 0 5 0 k i = S 5 0 k i := fun k i => by simp [zu]
        unfold zf_M_earn
        rw [zlt_v, pf_M_in, zbd_s, if_pos hy, if_neg (by decide), e5, hp, hz, if_pos h9, zlt_v, zu_at]
      · intro g r k hh; unfold Tc T0 at hh; simp (discharger := omega) only [zu_ne]
      · simp [zu]
      · intro i hi; rcases hi with h | h | h <;> simp [zu, h]
      · unfold Rsc at hsc ⊢
        obtain ⟨a1, a2, a3, a4, a5, a6, a7, a8, a9, a10, a11, a12, a13, a14, a15, a16, a17, a18, a19, a20⟩ := hsc
        refine ⟨by simp [zu, a1], by simp [zu], by simp [zu, a3], by simp [zu, a4], by simp [zu, a5], by simp [zu, a6], by simp [zu, a7], by simp [zu]; omega, by simp [zu]; omega, by simp [zu]; omega, by simp [zu]; omega, ?_, by simp [zu, a13], by simp [zu, a14], by simp [zu, a15], ?_, by simp [zu]; omega, by simp [zu]; omega, by simp [zu]; omega, by simp [zu]; omega⟩
        · intro i b1 b2; have := a12 i b1 b2; simp [zu]; omega
        · intro i b1 b2; have := a16 i b1 b2; simp [zu, this]
      · intro g r k hh; unfold Tc T0 at hh; simp (discharger := omega) only [zu_ne]
    · refine Pc.refused Tc0 hR (a := -2) ?_ ?_
      · unfold zf_O_earn
        rw [if_neg (by omega), if_pos hy.2, hz, if_neg h9]
      · unfold zf_M_earn
        rw [zlt_v, pf_M_in, zbd_s, if_pos hy, if_neg (by decide), eS, hp, hz, if_neg h9]
  · refine Pc.refused Tc0 hR (a := -1) ?_ ?_
    · unfold zf_O_earn
      by_cases h1 : y < 1
      · rw [if_pos h1]
      · rw [if_neg h1, if_neg (by omega)]
    · unfold zf_M_earn
      rw [zlt_v, pf_M_in, zbd_s, if_neg hy, if_pos rfl]
/-- the orders of pay, all of them tried -/
theorem permF : ∀ o : Fin 27, (let a := zrem (o.val : Int) 3; let b := zrem (zdiv (o.val : Int) 3) 3; let c := zdiv (o.val : Int) 9; (0 ≤ a ∧ a ≤ 2) ∧ (0 ≤ b ∧ b ≤ 2) ∧ (0 ≤ c ∧ c ≤ 2) ∧ (o.val : Int) = a + 3 * b + 9 * c ∧ ((zor (zor (zshl 1 a) (zshl 1 b)) (zshl 1 c) = 7) ↔ (¬ a = b ∧ ¬ a = c ∧ ¬ b = c))) := by decide +kernel
theorem permI {o : Int} (h : 0 ≤ o ∧ o < 27) : (0 ≤ zrem o 3 ∧ zrem o 3 ≤ 2) ∧ (0 ≤ zrem (zdiv o 3) 3 ∧ zrem (zdiv o 3) 3 ≤ 2) ∧ (0 ≤ zdiv o 9 ∧ zdiv o 9 ≤ 2) ∧ o = zrem o 3 + 3 * zrem (zdiv o 3) 3 + 9 * zdiv o 9 ∧ ((zor (zor (zshl 1 (zrem o 3)) (zshl 1 (zrem (zdiv o 3) 3))) (zshl 1 (zdiv o 9)) = 7) ↔ (¬ zrem o 3 = zrem (zdiv o 3) 3 ∧ ¬ zrem o 3 = zdiv o 9 ∧ ¬ zrem (zdiv o 3) 3 = zdiv o 9)) := by
  have h2 := permF ⟨o.toNat, by omega⟩
  simp only [show ((o.toNat : Nat) : Int) = o by omega] at h2
  exact h2
theorem pc_pays {S : Sg} (o : Int) (hR : Ria S 0 0) : Pc Tc S (zf_O_pays o) (zf_M_pays o) := by
  have hsc := hR.1
  have eS := eSn S 0
  by_cases ho : 0 ≤ o ∧ o < 27
  · have hp := permI ho
    generalize ha : zrem o 3 = a at hp
    generalize hb : zrem (zdiv o 3) 3 = b at hp
    generalize hc : zdiv o 9 = c at hp
    obtain ⟨pa, pb, pc, po, pi⟩ := hp
    by_cases hper : ¬ a = b ∧ ¬ a = c ∧ ¬ b = c
    · have h6 := hsc.2.2.2.2.2.1
      have h12 := hsc.2.2.2.2.2.2.2.2.2.2.2.1
      have q0 := h12 0 (by decide) (by decide)
      have q1 := h12 1 (by decide) (by decide)
      have q2 := h12 2 (by decide) (by decide)
      have hd := hsc.2.2.2.2.2.2.2.2.2.2.2.2
      refine ⟨if S 0 0 0 5 = o then 0 else 1, zu S 0 0 0 5 o, zu (zu (zu (zu (zu S 0 0 0 5 o) 9 0 0 4 0) 5 0 31 0 a) 5 0 31 1 b) 5 0 31 2 c, ?_, ?_, hR.withSc ?_ ?_ ?_ ?_, ?_⟩
      · unfold zf_O_pays zf_O_isPermutation
        rw [if_neg (by omega), if_neg (by omega), ha, hb, hc, if_pos (pi.mpr hper), zbd_s, if_neg (by decide), zlt_v, zlt_v]
        split <;> rfl
      · have e5 : ∀ k i, zu (zu S 0 0 0 5 o) 9 0 0 4 0 5 0 k i = S 5 0 k i := fun k i => by simp [zu]
        unfold zf_M_pays zf_M_pays_78 zf_M_pays_83
        rw [zlt_v, pf_M_in, zbd_s, if_pos (show 0 ≤ o ∧ o ≤ 26 by omega), if_neg (by decide), ha, hb, hc, zlt_v, zlt_v, zlt_v, if_neg hper.1, if_neg hper.2.1, if_neg hper.2.2, e5, e5]
        simp only [zlt_v]
        by_cases z : S 0 0 0 5 = o
        · have z0 : S 5 0 31 0 = a := by omega
          have z1 : S 5 0 31 1 = b := by omega
          rw [if_pos z0, if_pos z1, if_pos trivial, if_pos z]
        · rw [if_neg z]
          by_cases z0 : S 5 0 31 0 = a
          · by_cases z1 : S 5 0 31 1 = b
            · exact absurd (show S 0 0 0 5 = o by omega) z
            · rw [if_pos z0, if_neg z1, if_neg (by decide)]
          · rw [if_neg z0, if_neg (by decide)]
      · intro g r k hh; unfold Tc T0 at hh; simp (discharger := omega) only [zu_ne]
      · simp [zu]
      · intro i hi; simp [zu]
      · unfold Rsc at hsc ⊢
        obtain ⟨a1, a2, a3, a4, a5, a6, a7, a8, a9, a10, a11, a12, a13, a14, a15, a16, a17, a18, a19, a20⟩ := hsc
        refine ⟨by simp [zu, a1], by simp [zu, a2], by simp [zu, a3], by simp [zu, a4], by simp [zu, a5], by simp [zu]; omega, by simp [zu, a7], by simp [zu]; omega, by simp [zu]; omega, by simp [zu]; omega, by simp [zu]; omega, ?_, by simp [zu]; omega, by simp [zu]; omega, by simp [zu]; omega, ?_, by simp [zu]; omega, by simp [zu]; omega, by simp [zu]; omega, by simp [zu]; omega⟩
        · intro i b1 b2
          have hi : i = 0 ∨ i = 1 ∨ i = 2 := by omega
          rcases hi with e | e | e <;> subst e <;> simp [zu] <;> omega
        · intro i b1 b2; have := a16 i b1 b2; simp [zu, this]
      · intro g r k hh; unfold Tc T0 at hh; simp (discharger := omega) only [zu_ne]
    · refine Pc.refused Tc0 hR (a := -1) ?_ ?_
      · unfold zf_O_pays zf_O_isPermutation
        rw [if_neg (by omega), if_neg (by omega), ha, hb, hc, if_neg (fun q => hper (pi.mp q)), zbd_s, if_pos rfl]
      · unfold zf_M_pays
        rw [zlt_v, pf_M_in, zbd_s, if_pos (show 0 ≤ o ∧ o ≤ 26 by omega), if_neg (by decide), ha, hb, hc, zlt_v, zlt_v, zlt_v]
        by_cases z1 : a = b
        · rw [if_pos z1]
        · by_cases z2 : a = c
          · rw [if_neg z1, if_pos z2]
          · rw [if_neg z1, if_neg z2, if_pos (show b = c by omega)]
  · refine Pc.refused Tc0 hR (a := -1) ?_ ?_
    · unfold zf_O_pays
      by_cases h1 : o < 0
      · rw [if_pos h1]
      · rw [if_neg h1, if_pos (by omega)]
    · unfold zf_M_pays
      rw [zlt_v, pf_M_in, zbd_s, if_neg (show ¬ (0 ≤ o ∧ o ≤ 26) by omega), if_pos rfl]
