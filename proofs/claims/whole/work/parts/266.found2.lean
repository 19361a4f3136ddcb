/-! ===== found ===== -/
theorem sF_split {f : Int → Int} : ∀ (a b : Nat) (i : Int), sF f i (a + b) = sF f i a + sF f (i + a) b
  | 0, b, i => by simp [sF]
  | a + 1, b, i => by
    rw [show a + 1 + b = (a + b) + 1 by omega]
    show f i + sF f (i + 1) (a + b) = f i + sF f (i + 1) a + sF f (i + ((a + 1 : Nat) : Int)) b
    rw [sF_split a b (i + 1), show i + 1 + (a : Int) = i + ((a + 1 : Nat) : Int) by omega]
    omega
/-- both ways of taking back agree -/
theorem void_like {N x : Int} {c m v u : Int → Int} (hu : ∀ j, 0 ≤ j → j < N → -1 ≤ u j ∧ u j < j) (hcl : ∀ j, 0 ≤ j → j < N → 0 ≤ u j → v (u j) = 1 → v j = 1) (hv : ∀ j, 0 ≤ j → j < N → v j = 0 ∨ v j = 1) (hx : v x = 0)
    (c1 : ∀ j, 0 ≤ j → j < x → c j = v j) (c2 : c x = 1) (c3 : ∀ j, x < j → j < N → (c j = 0 ∨ c j = 1) ∧ (c j = 1 ↔ (v j = 1 ∨ (0 ≤ u j ∧ c (u j) = 1))))
    (m1 : ∀ j, 0 ≤ j → j < N → m j = v j ∨ (v j = 0 ∧ m j = 1)) (m2 : m x = 1) (m3 : ∀ j, 0 ≤ j → j < N → m j = 1 → v j = 1 ∨ j = x ∨ (0 ≤ u j ∧ m (u j) = 1)) (m4 : ∀ p j, 0 ≤ p → 0 ≤ j → j < N → v p = 0 → m p = 1 → u j = p → m j = 1) : ∀ (k : Nat) (j : Int), 0 ≤ j → j < N → j < k → c j = m j
  | 0, j, h0, _, hk => by omega
  | k + 1, j, h0, hN, hk => by
    have uj := hu j h0 hN
    have vj := hv j h0 hN
    have mj := m1 j h0 hN
    have ih : 0 ≤ u j → c (u j) = m (u j) := fun z => void_like hu hcl hv hx c1 c2 c3 m1 m2 m3 m4 k (u j) z (by omega) (by omega)
    by_cases h1 : j < x
    · rw [c1 j h0 h1]
      rcases mj with e | ⟨e1, e2⟩
      · exact e.symm
      · rcases m3 j h0 hN e2 with y | y | ⟨y1, y2⟩
        · omega
        · omega
        · have := ih y1
          rw [c1 (u j) y1 (by omega), y2] at this
          have := hcl j h0 hN y1 this
          omega
    · by_cases h2 : j = x
      · rw [h2, c2, m2]
      · obtain ⟨d1, d2⟩ := c3 j (by omega) hN
        by_cases hm : m j = 1
        · rw [hm]
          rw [d2]
          rcases m3 j h0 hN hm with y | y | ⟨y1, y2⟩
          · exact Or.inl y
          · exact absurd y h2
          · exact Or.inr ⟨y1, by rw [ih y1, y2]⟩
        · have hm0 : m j = 0 := by rcases mj with e | e <;> omega
          rw [hm0]
          rcases d1 with e | e
          · exact e
          · rcases d2.mp e with y | ⟨y1, y2⟩
            · rcases mj with e | e <;> omega
            · rw [ih y1] at y2
              rcases hv (u j) y1 (by omega) with z | z
              · exact absurd (m4 (u j) j y1 h0 hN z y2 rfl) hm
              · have := hcl j h0 hN y1 z
                rcases mj with e | e <;> omega
theorem pl_found {S : Sg} (x y : Int) (hR : Ria S 0 0) (hL : Rla S S 0 0) : Pl Tl S (zf_O_found x y) (zf_M_found x y) := by
  obtain ⟨hn, hn2, hl⟩ := id hL
  have eS := eSn S 0
  by_cases hx : 0 ≤ x ∧ x < S 0 0 16 0
  · have q := hl x hx.1 hx.2
    unfold Rl1 at q
    have h12 : 0 ≤ x ∧ x < 12 := by omega
    by_cases hy : 0 ≤ y ∧ y ≤ S 0 0 20 x
    · by_cases hv : S 0 0 21 x = 1
      · refine Pl.refused Tl0 hR hL (a := -3) ?_ ?_
        · unfold zf_O_found
          rw [pf_L_has, zbd_s, if_pos hx, if_neg (by decide), if_neg (by omega), zck_b h12, if_pos hy.2, if_pos hv]
        · unfold zf_M_found
          rw [zlt_v, pf_M_isLaw _ (by rw [eS]; omega), zbd_s, eS, hn, if_pos hx, if_neg (by decide), zck_b h12, eS, q.2.2.1, pf_M_in, zbd_s, if_pos hy, if_neg (by decide), eS, q.2.2.2.1, if_pos hv]
      · have hz : zw (2 * y) = 2 * y := zw_in (by omega) (by omega)
        have hg : ∀ (U : Sg), Fr Tl S U → (∀ j, 0 ≤ j → j < S 0 0 16 0 → U 0 0 17 j = S 0 0 17 j ∧ U 0 0 18 j = S 0 0 18 j ∧ U 0 0 20 j = S 0 0 20 j ∧ U 0 0 22 j = S 0 0 22 j ∧ U 0 0 23 j = S 0 0 23 j ∧ U 0 0 24 j = S 0 0 24 j ∧ U 5 0 14 j = S 5 0 14 j ∧ U 5 0 15 j = S 5 0 15 j ∧ U 5 0 17 j = S 5 0 17 j ∧ U 5 0 18 j = S 5 0 18 j ∧ U 5 0 20 j = S 5 0 20 j) → U 0 0 16 0 = S 0 0 16 0 → (∀ j, 0 ≤ j → j < S 0 0 16 0 → U 5 0 16 j = U 0 0 19 j ∧ (0 ≤ U 0 0 19 j ∧ U 0 0 19 j ≤ S 0 0 20 j)) → (∀ j, 0 ≤ j → j < S 0 0 16 0 → U 5 0 19 j = U 0 0 21 j ∧ (0 ≤ U 0 0 21 j ∧ U 0 0 21 j ≤ 1) ∧ (0 ≤ S 0 0 23 j → U 0 0 21 (S 0 0 23 j) = 1 → U 0 0 21 j = 1)) → Rla U U 0 0 := by
          intro U hF h1 h16 h2 h3
          refine ⟨by rw [hF 5 0 0 (by unfold Tl T0; omega), h16, hn], by omega, fun j a b => ?_⟩
          rw [h16] at b
          have p := hl j a b
          obtain ⟨z1, z2, z3, z4, z5, z6, z7, z8, z9, z10, z11⟩ := h1 j a b
          have w2 := h2 j a b
          have w3 := h3 j a b
          unfold Rl1 at p ⊢
          rw [z1, z2, z3, z4, z5, z6, z7, z8, z9, z10, z11, hF 6 0 j (by unfold Tl T0; omega)]
          exact ⟨p.1, w2.1, p.2.2.1, w3.1, p.2.2.2.2.1, p.2.2.2.2.2.1, p.2.2.2.2.2.2.1, p.2.2.2.2.2.2.2.1, p.2.2.2.2.2.2.2.2.1, ⟨w2.2.1, w2.2.2⟩, p.2.2.2.2.2.2.2.2.2.2.1, w3.2.1, p.2.2.2.2.2.2.2.2.2.2.2.2.1, p.2.2.2.2.2.2.2.2.2.2.2.2.2.1, p.2.2.2.2.2.2.2.2.2.2.2.2.2.2.1, p.2.2.2.2.2.2.2.2.2.2.2.2.2.2.2.1, w3.2.2⟩
        by_cases hs : 2 * y ≤ S 0 0 20 x
        · have hN : 0 ≤ S 0 0 16 0 ∧ S 0 0 16 0 ≤ 12 := hn2
          have hv0 : S 0 0 21 x = 0 := by omega
          -- the class
          obtain ⟨S2, e1, e2, e3, e4⟩ := pl_takeBack (r := 0) hN (S 0 0 16 0 - x - 1).toNat 4096 1 (x + 1) (zu (zu S 0 0 19 x y) 0 0 21 x 1) (by omega) (by omega) (by omega) (by decide) (by omega) (by simp [zu]) (by intro j a b; simp [zu]; have p := hl j a b; unfold Rl1 at p; omega) (by
            intro j a b
            have p := hl j a b
            unfold Rl1 at p
            by_cases e : j = x
            · simp [zu, e]
            · simp [zu, e]; omega)
          have hS2 : ∀ (g : Nat) (r k : Int), ¬ (g = 0 ∧ r = 0 ∧ (k = 21 ∨ k = 19)) → S2 g r k = S g r k := fun g r k hh => by
            rw [e2 g r k (by unfold Tv; omega), zu_ne (by omega), zu_ne (by omega)]
          have h19 : ∀ j, S2 0 0 19 j = if j = x then y else S 0 0 19 j := fun j => by
            rw [e2 0 0 19 (by unfold Tv; omega)]; simp [zu]
          -- the reference
          have eT : ∀ (g : Nat) (r k : Int), g ≠ 0 → ¬ (g = 9 ∧ r = 0 ∧ k = 0) → ¬ (g = 5 ∧ r = 0 ∧ k = 16) → zu (zu S2 9 0 0 4 0) 5 0 16 x y g r k = S g r k := fun g r k a b c => by rw [zu_ne (by omega), zu_ne (by omega), hS2 g r k (by omega)]
          have e18 : ∀ j, 0 ≤ j → j < S 0 0 16 0 → S 5 0 18 j = pv (S 0 0 23 j) ∧ S 5 0 19 j = S 0 0 21 j ∧ (-1 ≤ S 0 0 23 j ∧ S 0 0 23 j < j) ∧ (0 ≤ S 0 0 21 j ∧ S 0 0 21 j ≤ 1) ∧ (0 ≤ S 0 0 23 j → S 0 0 21 (S 0 0 23 j) = 1 → S 0 0 21 j = 1) := fun j a b => by
            have p := hl j a b
            unfold Rl1 at p
            exact ⟨p.2.2.2.2.2.1, p.2.2.2.1, p.2.2.2.2.2.2.2.2.2.2.2.2.2.1, p.2.2.2.2.2.2.2.2.2.2.2.1, p.2.2.2.2.2.2.2.2.2.2.2.2.2.2.2.2⟩
          have pvl : ∀ z w : Int, -1 ≤ z → z < w → 0 ≤ w → pv z < w := fun z w a b c => by unfold pv; split <;> omega
          obtain ⟨c, T2, f1, -, f3⟩ := pl_voided hN 16 x (zu (zu S2 9 0 0 4 0) 5 0 16 x y) (by omega) hx.1 hx.2 (by rw [eT 5 0 0 (by decide) (by omega) (by omega)]; exact hn) (by
            intro j a b
            rw [eT 5 0 18 (by decide) (by omega) (by omega)]
            have := e18 j a b
            rw [this.1]; exact pvl _ _ this.2.2.1.1 this.2.2.1.2 a) (by
            intro j a b
            rw [eT 5 0 19 (by decide) (by omega) (by omega)]
            have := e18 j a b
            omega)
          obtain ⟨g1, g2, g3, g4, g5, g6⟩ := f3 (by rw [eT 5 0 19 (by decide) (by omega) (by omega), (e18 x hx.1 hx.2).2.1]; exact hv0)
          rw [eT 5 0 19 (by decide) (by omega) (by omega)] at g2 g4 g5 g6
          rw [eT 5 0 18 (by decide) (by omega) (by omega)] at g4 g5
          have pv0 : ∀ z : Int, 0 ≤ pv z → pv z = z ∧ 0 ≤ z := fun z h => by
            unfold pv at h ⊢
            by_cases w : z < 0
            · rw [if_pos w] at h; omega
            · rw [if_neg w]; omega
          have like := void_like (N := S 0 0 16 0) (x := x) (c := S2 0 0 21) (m := T2 5 0 19) (v := S 0 0 21) (u := S 0 0 23) (fun j a b => (e18 j a b).2.2.1) (fun j a b => (e18 j a b).2.2.2.2) (fun j a b => by have := (e18 j a b).2.2.2.1; omega) hv0
            (fun j a b => by rw [e3 j (Or.inl (by omega))]; simp [zu, show ¬ j = x by omega])
            (by rw [e3 x (Or.inl (by omega))]; simp [zu])
            (fun j a b => by
              have := e4 j (by omega) b
              simp only [zu_pl (S := zu S 0 0 19 x y) (g := 0) (r := 0) (k := 21) (v := 1) (show j ≠ x by omega), zu_ne (S := zu S 0 0 19 x y) (g := 0) (g' := 0) (r := 0) (r' := 0) (k := 21) (k' := 23) (i := x) (v := 1) (by omega), zu_ne (S := S) (g := 0) (g' := 0) (r := 0) (r' := 0) (k := 19) (k' := 23) (i := x) (v := y) (by omega), zu_ne (S := S) (g := 0) (g' := 0) (r := 0) (r' := 0) (k := 19) (k' := 21) (i := x) (v := y) (by omega)] at this
              exact this)
            (fun j a b => by have := (e18 j a b).2.1; rcases g2 j with e | e <;> omega)
            g3
            (fun j a b z => by
              have w := e18 j a b
              rcases g4 j a b z with e | e | ⟨e, e'⟩
              · left; omega
              · exact Or.inr (Or.inl e)
              · rw [w.1] at e e'
                have := pv0 _ e
                rw [this.1] at e'
                exact Or.inr (Or.inr ⟨this.2, e'⟩))
            (fun p j a b d e f i => by
              have hpN : p < S 0 0 16 0 := by have := (e18 j b d).2.2.1; omega
              refine g5 p j a b d (by rw [(e18 p a hpN).2.1]; exact e) f ?_
              rw [(e18 j b d).1, i]
              unfold pv; rw [if_neg (by omega)])
          have like2 : ∀ j, 0 ≤ j → j < S 0 0 16 0 → S2 0 0 21 j = T2 5 0 19 j := fun j a b => like (j.toNat + 1) j a b (by omega)
          have hcnt : c = 1 + sF (fun j => S2 0 0 21 j - zu (zu S 0 0 19 x y) 0 0 21 x 1 0 0 21 j) (x + 1) (S 0 0 16 0 - x - 1).toNat := by
            rw [g6, show (S 0 0 16 0).toNat = x.toNat + (1 + (S 0 0 16 0 - x - 1).toNat) by omega, sF_split, sF_split 1]
            rw [sF_zero (f := fun j => T2 5 0 19 j - S 5 0 19 j) x.toNat 0 (fun j a b => by
              have h1 := like2 j a (by omega)
              have h2 : S2 0 0 21 j = S 0 0 21 j := by rw [e3 j (Or.inl (by omega))]; simp [zu, show ¬ j = x by omega]
              have h3 := (e18 j a (by omega)).2.1
              omega)]
            rw [show (0 : Int) + ((x.toNat : Nat) : Int) = x by omega, show x + ((1 : Nat) : Int) = x + 1 by omega]
            rw [sF_eq (g := fun j => S2 0 0 21 j - zu (zu S 0 0 19 x y) 0 0 21 x 1 0 0 21 j) (S 0 0 16 0 - x - 1).toNat (x + 1) (fun j a b => by
              have h1 := like2 j (by omega) (by omega)
              have h3 := (e18 j (by omega) (by omega)).2.1
              have h4 : zu (zu S 0 0 19 x y) 0 0 21 x 1 0 0 21 j = S 0 0 21 j := by simp [zu, show ¬ j = x by omega]
              show T2 5 0 19 j - S 5 0 19 j = S2 0 0 21 j - zu (zu S 0 0 19 x y) 0 0 21 x 1 0 0 21 j
              omega)]
            have h5 : sF (fun j => T2 5 0 19 j - S 5 0 19 j) x 1 = 1 := by
              show (T2 5 0 19 x - S 5 0 19 x) + 0 = 1
              have := (e18 x hx.1 hx.2).2.1
              omega
            omega
          have hF : Fr Tl S T2 := by
            intro g r k hh
            unfold Tl T0 at hh
            rw [g1 g r k (by unfold Tu; omega), zu_ne (by omega), zu_ne (by omega), hS2 g r k (by omega)]
          have k0 : ∀ k i, T2 0 0 k i = S2 0 0 k i := fun k i => by rw [g1 0 0 k (by unfold Tu; omega), zu_ne (by omega), zu_ne (by omega)]
          have k5 : ∀ k i, ¬ k = 19 → ¬ k = 16 → T2 5 0 k i = S 5 0 k i := fun k i a b => by rw [g1 5 0 k (by unfold Tu; omega), eT 5 0 k (by decide) (by omega) (by omega)]
          refine ⟨c, S2, T2, ?_, ?_, hR.laws hF, hg T2 hF ?_ ?_ ?_ ?_, hF⟩
          · unfold zf_O_found zf_L_takeBack
            rw [pf_L_has, zbd_s, if_pos hx, if_neg (by decide), if_neg (by omega), zck_b h12, if_pos hy.2, if_neg hv, zlt_v, hz, zu_ne (g' := 0) (k' := 20) (by omega), if_pos hs, zck_b h12, zlt_v, zlt_v, zw_in (x := x + 1) (by omega) (by omega), e1, zbd_s, hcnt]
          · have m5 : ∀ k i, zu S2 9 0 0 4 0 5 0 k i = S 5 0 k i := fun k i => by rw [zu_ne (by omega), hS2 5 0 k (by omega)]
            unfold zf_M_found zf_M_voided
            rw [zlt_v, pf_M_isLaw _ (by rw [m5]; omega), zbd_s, m5, hn, if_pos hx, if_neg (by decide), zck_b h12, m5, q.2.2.1, pf_M_in, zbd_s, if_pos hy, if_neg (by decide), m5, q.2.2.2.1, if_neg hv, zlt_v, hz, zu_ne (g' := 5) (k' := 17) (by omega), m5, q.2.2.1, if_pos hs, f1, zbd_s]
          · intro j a b
            refine ⟨?_, ?_, ?_, ?_, ?_, ?_, k5 _ _ (by decide) (by decide), k5 _ _ (by decide) (by decide), k5 _ _ (by decide) (by decide), k5 _ _ (by decide) (by decide), k5 _ _ (by decide) (by decide)⟩ <;> (rw [k0, hS2 _ _ _ (by omega)])
          · rw [k0, hS2 _ _ _ (by omega)]
          · intro j a b
            have p := hl j a b
            unfold Rl1 at p
            rw [k0, h19, g1 5 0 16 (by unfold Tu; omega)]
            by_cases e : j = x
            · rw [if_pos e, e, zu_at]; exact ⟨rfl, hy⟩
            · rw [if_neg e, zu_pl e, zu_ne (by omega), hS2 5 0 16 (by omega)]; exact ⟨p.2.1, p.2.2.2.2.2.2.2.2.2.1⟩
          · intro j a b
            rw [k0, k0]
            have w := like2 j a b
            have w1 := (e18 j a b)
            have w2 : S2 0 0 21 j = 0 ∨ S2 0 0 21 j = 1 := by
              rw [w]; rcases g2 j with e | e <;> omega
            refine ⟨w.symm, by omega, fun z1 z2 => ?_⟩
            by_cases h1 : j < x
            · have c1 : ∀ i, 0 ≤ i → i < x → S2 0 0 21 i = S 0 0 21 i := fun i a' b' => by rw [e3 i (Or.inl (by omega))]; simp [zu, show ¬ i = x by omega]
              rw [c1 j a h1]
              rw [c1 _ z1 (by omega)] at z2
              exact w1.2.2.2.2 z1 z2
            · by_cases h2 : j = x
              · rw [h2, e3 x (Or.inl (by omega))]; simp [zu]
              · have := (e4 j (by omega) b).2
                rw [this]
                right
                have e23 : zu (zu S 0 0 19 x y) 0 0 21 x 1 0 0 23 j = S 0 0 23 j := by rw [zu_ne (by omega), zu_ne (by omega)]
                rw [e23]
                exact ⟨z1, z2⟩
        · have hF : Fr Tl S (zu (zu (zu S 0 0 19 x y) 9 0 0 4 0) 5 0 16 x y) := by
            intro g r k hh; unfold Tl T0 at hh; simp (discharger := omega) only [zu_ne]
          refine ⟨0, zu S 0 0 19 x y, zu (zu (zu S 0 0 19 x y) 9 0 0 4 0) 5 0 16 x y, ?_, ?_, hR.laws hF, hg _ hF ?_ ?_ ?_ ?_, hF⟩
          · unfold zf_O_found
            rw [pf_L_has, zbd_s, if_pos hx, if_neg (by decide), if_neg (by omega), zck_b h12, if_pos hy.2, if_neg hv, zlt_v, hz, zu_ne (g' := 0) (k' := 20) (by omega), if_neg hs]
          · have m5 : ∀ k i, zu (zu S 0 0 19 x y) 9 0 0 4 0 5 0 k i = S 5 0 k i := fun k i => by simp [zu]
            unfold zf_M_found
            rw [zlt_v, pf_M_isLaw _ (by rw [m5]; omega), zbd_s, m5, hn, if_pos hx, if_neg (by decide), zck_b h12, m5, q.2.2.1, pf_M_in, zbd_s, if_pos hy, if_neg (by decide), m5, q.2.2.2.1, if_neg hv, zlt_v, hz, zu_ne (g' := 5) (k' := 17) (by omega), m5, q.2.2.1, if_neg hs]
          · intro j a b; simp [zu]
          · simp [zu]
          · intro j a b
            have p := hl j a b
            unfold Rl1 at p
            by_cases e : j = x
            · simp [zu, e]; omega
            · simp [zu, e]; omega
          · intro j a b
            have p := hl j a b
            unfold Rl1 at p
            simp [zu]
            exact ⟨p.2.2.2.1, p.2.2.2.2.2.2.2.2.2.2.2.1, p.2.2.2.2.2.2.2.2.2.2.2.2.2.2.2.2⟩
    · refine Pl.refused Tl0 hR hL (a := -1) ?_ ?_
      · unfold zf_O_found
        rw [pf_L_has, zbd_s, if_pos hx, if_neg (by decide)]
        by_cases z : y < 0
        · rw [if_pos z]
        · rw [if_neg z, zck_b h12, if_neg (by omega)]
      · unfold zf_M_found
        rw [zlt_v, pf_M_isLaw _ (by rw [eS]; omega), zbd_s, eS, hn, if_pos hx, if_neg (by decide), zck_b h12, eS, q.2.2.1, pf_M_in, zbd_s, if_neg hy, if_pos rfl]
  · refine Pl.refused Tl0 hR hL (a := -1) ?_ ?_
    · unfold zf_O_found
      rw [pf_L_has, zbd_s, if_neg hx, if_pos rfl]
    · unfold zf_M_found
      rw [zlt_v, pf_M_isLaw _ (by rw [eS]; omega), zbd_s, eS, hn, if_neg hx, if_pos rfl]
