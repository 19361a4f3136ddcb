/-! ===== keep, toss ===== -/
theorem kind_rng {st en b sk wk : Int} (h : ¬ st = 2) : 0 ≤ kindS st en b sk wk ∧ kindS st en b sk wk ≤ 5 := by
  unfold kindS
  repeat' split
  all_goals omega
theorem age_rng {wk b : Int} (h : -5000 ≤ b ∧ b ≤ wk) (hw : 0 ≤ wk ∧ wk ≤ 400) : 0 ≤ ageS wk b ∧ ageS wk b ≤ 103 := by
  unfold ageS
  rw [Int.tdiv_eq_ediv_of_nonneg (by omega)]
  omega
theorem nw_rng (k : Int) : (0 ≤ needS k false ∧ needS k false ≤ 5) ∧ (0 ≤ wageS k false ∧ wageS k false ≤ 6) := by
  unfold needS wageS
  repeat' split
  all_goals omega
theorem pf_takePerson {S : Sg} {d p wk : Int} (hp : 0 ≤ p ∧ p < 40) (hb : -5000 ≤ S 0 0 7 p ∧ S 0 0 7 p ≤ wk) (hw : 0 ≤ wk ∧ wk ≤ 400) (hst : ¬ S 0 0 11 p = 2) (hh : 0 ≤ S 0 0 8 p ∧ S 0 0 8 p < 12) :
    ∃ S1, zf_S_takePerson d 0 p wk S = some (0, S1) ∧ (∀ (g : Nat) (r k : Int), ¬ (g = 2 ∧ r = d ∧ k = 0) → S1 g r k = S g r k) ∧ S1 2 d 0 0 = 1 ∧ S1 2 d 0 1 = hfS (knd S 0 p wk) (ageS wk (S 0 0 7 p)) ∧ S1 2 d 0 2 = flS (knd S 0 p wk) (S 0 0 8 p) := by
  have hk := kind_rng (en := S 0 0 12 p) (b := S 0 0 7 p) (sk := S 0 0 10 p) (wk := wk) hst
  have ha := age_rng hb hw
  unfold zf_S_takePerson zf_S_takePerson_59 zf_S_takePerson_83
  rw [pf_P_kind hp (by omega) hw, zbd_s]
  show ∃ S1, (zlt (zu S 2 d 0 0 1) fun S3 => _) = some (0, S1) ∧ _
  unfold knd
  generalize kindS (S 0 0 11 p) (S 0 0 12 p) (S 0 0 7 p) (S 0 0 10 p) wk = K at hk ⊢
  have hnw := nw_rng K
  rw [zlt_v, zlt_v, show (0 : Int) = zbI false from rfl, pf_P_needOf, zbd_s, pf_P_wageOf, zbd_s]
  have hz : zbI false = 0 := rfl
  simp only [hz]
  rw [zlt_v, zw_in (x := 10 + needS K false) (by omega) (by omega), zw_in (x := 10 + needS K false + wageS K false) (by omega) (by omega), zw_in (x := 10 + needS K false + wageS K false + K) (by omega) (by omega)]
  have e8 : zu (zu (zu S 2 d 0 0 1) 2 d 0 3 p) 2 d 0 1 (10 + needS K false + wageS K false + K) 0 0 8 p = S 0 0 8 p := by simp [zu]
  have eA : ∀ v, zf_P_age 0 p wk (zu (zu (zu (zu S 2 d 0 0 1) 2 d 0 3 p) 2 d 0 1 (10 + needS K false + wageS K false + K)) 2 d 0 2 v) = some (ageS wk (S 0 0 7 p), zu (zu (zu (zu S 2 d 0 0 1) 2 d 0 3 p) 2 d 0 1 (10 + needS K false + wageS K false + K)) 2 d 0 2 v) := fun v => by
    rw [pf_P_age hp (by simp [zu]; omega) hw]; simp [zu]
  by_cases k3 : K = 3
  · rw [if_pos k3, zlt_v, if_neg (by omega), if_neg (by omega)]
    refine ⟨_, rfl, fun g r k h => by rw [zu_ne h, zu_ne h, zu_ne h, zu_ne h], by simp [zu], ?_, ?_⟩
    · unfold hfS; rw [if_neg (by omega), if_neg (by omega)]; simp [zu]
    · unfold flS; rw [if_pos k3]; simp [zu]
  · rw [if_neg k3, zck_b hp, e8, zlt_v]
    by_cases k1 : K = 1
    · rw [if_pos k1, eA, zbd_s, zlt_v, if_neg (by omega)]
      refine ⟨_, rfl, fun g r k h => by rw [zu_ne h, zu_ne h, zu_ne h, zu_ne h, zu_ne h], by simp [zu], ?_, ?_⟩
      · unfold hfS; rw [if_pos k1, zu_at, zw_in (by simp [zu]; omega) (by simp [zu]; omega)]; simp [zu]
      · unfold flS; rw [if_neg k3, if_neg (by omega)]; simp [zu]
    · rw [if_neg k1]
      by_cases k5 : K = 5
      · rw [if_pos k5, zlt_v, zlt_v]
        refine ⟨_, rfl, fun g r k h => by rw [zu_ne h, zu_ne h, zu_ne h, zu_ne h, zu_ne h, zu_ne h], by simp [zu], ?_, ?_⟩
        · unfold hfS; rw [if_neg k1, if_pos k5, zu_pl (by decide), zu_at, zw_in (by simp [zu]; omega) (by simp [zu]; omega)]; simp [zu]; omega
        · unfold flS; rw [if_neg k3, if_pos k5, zu_at, zw_in (by simp [zu]; omega) (by simp [zu]; omega)]; simp [zu]
      · rw [if_neg k5]
        refine ⟨_, rfl, fun g r k h => by rw [zu_ne h, zu_ne h, zu_ne h, zu_ne h], by simp [zu], ?_, ?_⟩
        · unfold hfS; rw [if_neg k1, if_neg k5]; simp [zu]
        · unfold flS; rw [if_neg k3, if_neg k5]; simp [zu]
theorem sbj_rng (c : Int) : 0 ≤ sbj c ∧ sbj c ≤ 3 := by
  unfold sbj
  repeat' split
  all_goals omega
theorem pd_keep {S : Sg} (d w k : Int) (hR : Ria S 0 0) (hL : Rla S S 0 0) (hs : Rsh S) : Pd S (zf_O_keep d w k) (zf_M_keep d w k) := by
  have hw := hR.week
  obtain ⟨hn, hn2, hpp⟩ := hR.2.2.1
  obtain ⟨ln, ln2, hl⟩ := id hL
  have eS := eSn S 0
  by_cases hd : 0 ≤ d ∧ d < 8
  · by_cases hww : 0 ≤ w ∧ w ≤ 2
    · by_cases w0 : w = 0
      · subst w0
        refine Pd.made hR hs (a := 0) (S1 := zu S 2 d 0 0 0) (S2 := zu (zu (zu S 2 d 0 0 0) 9 0 0 4 0) 9 0 1 d 0) ?_ ?_ d ?_ ?_ ?_ ?_
        · unfold zf_O_keep
          rw [pf_O_isShelf, zbd_s, if_pos hd, if_neg (by decide), if_neg (by decide), if_pos (by decide), if_pos rfl, zck_b hd, zlt_v]
        · unfold zf_M_keep zf_M_keep_34 zf_M_keep_49 zf_M_keep_70
          rw [zlt_v, pf_M_isShelf, zbd_s, if_pos hd, if_neg (by decide), pf_M_in, zbd_s, if_pos (show (0 : Int) ≤ 0 ∧ (0 : Int) ≤ 2 by decide), if_neg (by decide), if_neg (by decide), if_neg (by decide), if_neg (by decide), zck_b hd, zlt_v, if_neg (by decide), if_neg (by decide)]
        · unfold Rs1
          refine ⟨by simp [zu], by simp [zu], fun z => by simp [zu] at z, fun z => by simp [zu] at z, fun z => by simp [zu] at z⟩
        · intro g r k hh; unfold Tf at hh; simp (discharger := omega) only [zu_ne]
        · intro g r k hr hg; simp (discharger := omega) only [zu_ne]
        · intro q i h1 h3 hi; simp [zu, hi, show ¬ q = 0 by omega]
      · by_cases w1 : w = 1
        · subst w1
          by_cases hx : 0 ≤ k ∧ k < S 0 0 6 0
          · have q := hpp k hx.1 hx.2
            unfold Rp1 at q
            have h4 : 0 ≤ k ∧ k < 40 := by omega
            by_cases hg : S 0 0 11 k = 2
            · refine Pd.refused hR hs (a := -3) ?_ ?_
              · unfold zf_O_keep
                rw [pf_O_isShelf, zbd_s, if_pos hd, if_neg (by decide), if_neg (by decide), if_pos (by decide), if_neg (by decide), if_neg (by decide), pf_P_has, zbd_s, if_pos hx, if_neg (by decide), zck_b h4, if_pos hg]
              · unfold zf_M_keep zf_M_keep_34 zf_M_keep_49
                rw [zlt_v, pf_M_isShelf, zbd_s, if_pos hd, if_neg (by decide), pf_M_in, zbd_s, if_pos (show (0 : Int) ≤ 1 ∧ (1 : Int) ≤ 2 by decide), if_neg (by decide), if_pos rfl, pf_M_isPerson _ (by rw [eS]; omega), zbd_s, eS, hn, if_pos hx, if_neg (by decide), if_neg (by decide), if_pos rfl, zck_b h4, eS, q.2.2.2.2.1, if_pos hg]
            · obtain ⟨S1, e1, e2, e3, e4, e5⟩ := pf_takePerson (S := S) (d := d) (p := k) (wk := S 0 0 0 0) h4 (by omega) hw.2 hg (by omega)
              have k1 : ∀ (g : Nat) (r q : Int), g ≠ 2 → ¬ (g = 9 ∧ r = 0 ∧ (q = 0 ∨ q = 1)) → zu (zu S1 9 0 0 4 0) 9 0 1 d 1 g r q = S g r q := fun g r q a b => by rw [zu_ne (by omega), zu_ne (by omega), e2 g r q (by omega)]
              have hK : kindS (S 5 0 5 k) (S 5 0 6 k) (S 5 0 1 k) (S 5 0 4 k) (S 5 0 0 0) = knd S 0 k (S 0 0 0 0) := by unfold knd; simp only [q, hw.1]
              have hA : ageS (S 5 0 0 0) (S 5 0 1 k) = ageS (S 0 0 0 0) (S 0 0 7 k) := by simp only [q, hw.1]
              have hkr := kind_rng (en := S 0 0 12 k) (b := S 0 0 7 k) (sk := S 0 0 10 k) (wk := S 0 0 0 0) hg
              have har := age_rng (wk := S 0 0 0 0) (b := S 0 0 7 k) (by omega) hw.2
              refine Pd.made hR hs (a := 0) (S1 := S1) (S2 := zu (zu (zu (zu (zu S1 9 0 0 4 0) 9 0 1 d 1) 11 d 0 0 (knd S 0 k (S 0 0 0 0))) 11 d 0 1 (ageS (S 0 0 0 0) (S 0 0 7 k))) 11 d 0 2 (S 0 0 8 k)) ?_ ?_ d ?_ ?_ ?_ ?_
              · unfold zf_O_keep
                rw [pf_O_isShelf, zbd_s, if_pos hd, if_neg (by decide), if_neg (by decide), if_pos (by decide), if_neg (by decide), if_neg (by decide), pf_P_has, zbd_s, if_pos hx, if_neg (by decide), zck_b h4, if_neg hg, zck_b hd, e1, zbd_s]
              · have m5 : ∀ q i, zu S1 9 0 0 4 0 5 0 q i = S 5 0 q i := fun q i => by rw [zu_ne (by omega), e2 5 0 q (by omega)]
                have m6 : ∀ q i, zu (zu S1 9 0 0 4 0) 9 0 1 d 1 5 0 q i = S 5 0 q i := fun q i => by rw [k1 5 0 q (by decide) (by omega)]
                have m7 : ∀ a q i, zu (zu (zu S1 9 0 0 4 0) 9 0 1 d 1) 11 d 0 0 a 5 0 q i = S 5 0 q i := fun a q i => by rw [zu_ne (by omega), m6]
                have m8 : ∀ a b q i, zu (zu (zu (zu S1 9 0 0 4 0) 9 0 1 d 1) 11 d 0 0 a) 11 d 0 1 b 5 0 q i = S 5 0 q i := fun a b q i => by rw [zu_ne (by omega), m7]
                unfold zf_M_keep zf_M_keep_34 zf_M_keep_49 zf_M_keep_70
                rw [zlt_v, pf_M_isShelf, zbd_s, if_pos hd, if_neg (by decide), pf_M_in, zbd_s, if_pos (show (0 : Int) ≤ 1 ∧ (1 : Int) ≤ 2 by decide), if_neg (by decide), if_pos rfl, pf_M_isPerson _ (by rw [m5]; omega), zbd_s, m5, hn, if_pos hx, if_neg (by decide), if_neg (by decide), if_pos rfl, zck_b h4, m5, q.2.2.2.2.1, if_neg hg, zck_b hd, zlt_v, if_pos rfl, pf_W_kind h4 (by rw [m6]; omega) (by rw [m6]; omega), zbd_s, m6, m6, m6, m6, m6, hK, zlt_v, pf_W_age h4 (by rw [m7]; omega) (by rw [m7]; omega), zbd_s, m7, m7, hA, zlt_v, zck_b h4, zlt_v, m8, q.2.1]
              · unfold Rs1
                have k2 : ∀ q i, zu (zu (zu (zu (zu S1 9 0 0 4 0) 9 0 1 d 1) 11 d 0 0 (knd S 0 k (S 0 0 0 0))) 11 d 0 1 (ageS (S 0 0 0 0) (S 0 0 7 k))) 11 d 0 2 (S 0 0 8 k) 2 d q i = S1 2 d q i := fun q i => by rw [zu_ne (by omega), zu_ne (by omega), zu_ne (by omega), zu_ne (by omega), zu_ne (by omega)]
                simp only [k2, e3, e4, e5]
                refine ⟨by simp [zu], by decide, fun z => by omega, fun _ => ⟨by simp [zu], by simp [zu], by simp [zu]; exact hkr, by simp [zu]; omega, by simp [zu]; omega⟩, fun z => by omega⟩
              · intro g r q hh; unfold Tf at hh; simp (discharger := omega) only [zu_ne]; exact e2 g r q (by omega)
              · intro g r q hr hg2; simp (discharger := omega) only [zu_ne]; exact e2 g r q (by omega)
              · intro q i h1 h3 hi
                rw [zu_ne (by omega), zu_ne (by omega), zu_ne (by omega)]
                by_cases z : q = 1
                · rw [z, zu_pl hi, zu_ne (by omega), e2 9 0 1 (by omega)]
                · rw [zu_ne (by omega), zu_ne (by omega), e2 9 0 q (by omega)]
          · refine Pd.refused hR hs (a := -1) ?_ ?_
            · unfold zf_O_keep
              rw [pf_O_isShelf, zbd_s, if_pos hd, if_neg (by decide), if_neg (by decide), if_pos (by decide), if_neg (by decide), if_neg (by decide), pf_P_has, zbd_s, if_neg hx, if_pos rfl]
            · unfold zf_M_keep
              rw [zlt_v, pf_M_isShelf, zbd_s, if_pos hd, if_neg (by decide), pf_M_in, zbd_s, if_pos (show (0 : Int) ≤ 1 ∧ (1 : Int) ≤ 2 by decide), if_neg (by decide), if_pos rfl, pf_M_isPerson _ (by rw [eS]; omega), zbd_s, eS, hn, if_neg hx, if_pos rfl]
        · have w2 : w = 2 := by omega
          subst w2
          by_cases hx : 0 ≤ k ∧ k < S 0 0 16 0
          · have q := hl k hx.1 hx.2
            unfold Rl1 at q
            have h12 : 0 ≤ k ∧ k < 12 := by omega
            have z1 : zw (1000 + S 0 0 17 k) = 1000 + S 0 0 17 k := zw_in (by omega) (by omega)
            have z2 : zw (1000 + S 0 0 17 k + S 0 0 24 k) = 1000 + S 0 0 17 k + S 0 0 24 k := zw_in (by omega) (by omega)
            refine Pd.made hR hs (a := 0) (S1 := zu (zu (zu (zu S 2 d 0 0 2) 2 d 0 3 k) 2 d 0 1 (1000 + S 0 0 17 k + S 0 0 24 k)) 2 d 0 2 (S 0 0 20 k)) (S2 := zu (zu (zu (zu (zu (zu (zu (zu (zu (zu S 2 d 0 0 2) 2 d 0 3 k) 2 d 0 1 (1000 + S 0 0 17 k + S 0 0 24 k)) 2 d 0 2 (S 0 0 20 k)) 9 0 0 4 0) 9 0 1 d 2) 11 d 0 0 k) 11 d 0 1 (S 0 0 17 k)) 11 d 0 2 (S 0 0 24 k)) 11 d 0 3 (S 0 0 20 k)) ?_ ?_ d ?_ ?_ ?_ ?_
            · unfold zf_O_keep zf_S_takeLaw
              rw [pf_O_isShelf, zbd_s, if_pos hd, if_neg (by decide), if_neg (by decide), if_pos (by decide), if_neg (by decide), if_pos rfl, pf_L_has, zbd_s, if_pos hx, if_neg (by decide), zck_b hd, zlt_v, zlt_v, zck_b h12]
              simp (discharger := omega) only [zu_ne, z1, z2, zlt_v, zbd_s]
            · have m5 : ∀ q i, zu (zu (zu (zu (zu S 2 d 0 0 2) 2 d 0 3 k) 2 d 0 1 (1000 + S 0 0 17 k + S 0 0 24 k)) 2 d 0 2 (S 0 0 20 k)) 9 0 0 4 0 5 0 q i = S 5 0 q i := fun q i => by simp [zu]
              unfold zf_M_keep zf_M_keep_34 zf_M_keep_49 zf_M_keep_70
              rw [zlt_v, pf_M_isShelf, zbd_s, if_pos hd, if_neg (by decide), pf_M_in, zbd_s, if_pos (show (0 : Int) ≤ 2 ∧ (2 : Int) ≤ 2 by decide), if_neg (by decide), if_neg (by decide), if_pos rfl, pf_M_isLaw _ (by rw [m5]; omega), zbd_s, m5, ln, if_pos hx, if_neg (by decide), if_neg (by decide), zck_b hd, zlt_v, if_neg (by decide), if_pos rfl, zlt_v, pf_W_subject h12, zbd_s, zlt_v, zck_b h12]
              simp (discharger := omega) only [zu_ne, q, zlt_v]
            · unfold Rs1
              refine ⟨by simp [zu], by simp [zu], fun z => by simp [zu] at z, fun z => by simp [zu] at z, fun _ => ⟨by simp [zu], by simp [zu], by simp [zu], by simp [zu]; omega, by simp [zu]; omega, by simp [zu]; omega⟩⟩
            · intro g r q hh; unfold Tf at hh; simp (discharger := omega) only [zu_ne]
            · intro g r q hr hg; simp (discharger := omega) only [zu_ne]
            · intro q i h1 h3 hi; simp [zu, hi, show ¬ q = 0 by omega]
          · refine Pd.refused hR hs (a := -1) ?_ ?_
            · unfold zf_O_keep
              rw [pf_O_isShelf, zbd_s, if_pos hd, if_neg (by decide), if_neg (by decide), if_pos (by decide), if_neg (by decide), if_pos rfl, pf_L_has, zbd_s, if_neg hx, if_pos rfl]
            · unfold zf_M_keep zf_M_keep_34
              rw [zlt_v, pf_M_isShelf, zbd_s, if_pos hd, if_neg (by decide), pf_M_in, zbd_s, if_pos (show (0 : Int) ≤ 2 ∧ (2 : Int) ≤ 2 by decide), if_neg (by decide), if_neg (by decide), if_pos rfl, pf_M_isLaw _ (by rw [eS]; omega), zbd_s, eS, ln, if_neg hx, if_pos rfl]
    · refine Pd.refused hR hs (a := -1) ?_ ?_
      · unfold zf_O_keep
        rw [pf_O_isShelf, zbd_s, if_pos hd, if_neg (by decide)]
        by_cases z : w < 0
        · rw [if_pos z]
        · rw [if_neg z, if_neg (by omega)]
      · unfold zf_M_keep
        rw [zlt_v, pf_M_isShelf, zbd_s, if_pos hd, if_neg (by decide), pf_M_in, zbd_s, if_neg hww, if_pos rfl]
  · refine Pd.refused hR hs (a := -1) ?_ ?_
    · unfold zf_O_keep
      rw [pf_O_isShelf, zbd_s, if_neg hd, if_pos rfl]
    · unfold zf_M_keep
      rw [zlt_v, pf_M_isShelf, zbd_s, if_neg hd, if_pos rfl]
theorem pd_toss {S : Sg} (d : Int) (hR : Ria S 0 0) (hL : Rla S S 0 0) (hs : Rsh S) : Pd S (zf_O_toss d) (zf_M_toss d) := by
  obtain ⟨ln, ln2, hl⟩ := id hL
  have eS := eSn S 0
  by_cases hd : 0 ≤ d ∧ d < 8
  · have q := hs d hd.1 hd.2
    unfold Rs1 at q
    have e91 : zu S 9 0 0 4 0 9 0 1 d = S 2 d 0 0 := by rw [nS (by omega), q.1]
    have e11 : ∀ k, zu S 9 0 0 4 0 11 d 0 k = S 11 d 0 k := fun k => nS (by omega)
    by_cases h0 : S 2 d 0 0 = 0
    · refine Pd.refused hR hs (a := -11) ?_ ?_
      · unfold zf_O_toss
        rw [pf_O_isShelf, zbd_s, if_pos hd, if_neg (by decide), zck_b hd, if_pos h0]
      · unfold zf_M_toss
        rw [zlt_v, pf_M_isShelf, zbd_s, if_pos hd, if_neg (by decide), pf_M_noThing hd, zbd_s, e91, if_pos h0, if_neg (by decide), pf_M_noThing hd, zbd_s, e91, if_pos h0]
    · by_cases h3 : S 2 d 0 0 = 3
      · refine Pd.refused hR hs (a := -12) ?_ ?_
        · unfold zf_O_toss
          rw [pf_O_isShelf, zbd_s, if_pos hd, if_neg (by decide), zck_b hd, if_neg h0, if_pos h3]
        · unfold zf_M_toss
          rw [zlt_v, pf_M_isShelf, zbd_s, if_pos hd, if_neg (by decide), pf_M_noThing hd, zbd_s, e91, if_neg h0, if_pos h3, if_neg (by decide), pf_M_noThing hd, zbd_s, e91, if_neg h0, if_pos h3]
      · by_cases h2 : S 2 d 0 0 = 2
        · have q2 := q.2.2.2.2 h2
          have h12 : 0 ≤ S 11 d 0 0 ∧ S 11 d 0 0 < 12 := q2.2.2.2.1
          by_cases hv : S 11 d 0 0 < S 0 0 16 0 ∧ S 0 0 21 (S 11 d 0 0) = 1
          · have p := hl (S 11 d 0 0) h12.1 hv.1
            unfold Rl1 at p
            refine Pd.refused hR hs (a := -15) ?_ ?_
            · unfold zf_O_toss
              rw [pf_O_isShelf, zbd_s, if_pos hd, if_neg (by decide), zck_b hd, if_neg h0, if_neg h3, if_pos h2, pf_L_has, zbd_s, q2.1, if_pos (show 0 ≤ S 11 d 0 0 ∧ S 11 d 0 0 < S 0 0 16 0 from ⟨h12.1, hv.1⟩), if_neg (by decide), zck_b h12, if_pos hv.2]
            · unfold zf_M_toss zf_M_toss_78
              rw [zlt_v, pf_M_isShelf, zbd_s, if_pos hd, if_neg (by decide), pf_M_noThing hd, zbd_s, e91, if_neg h0, if_neg h3, if_pos rfl, zck_b hd, if_pos h2, pf_M_isLaw _ (by rw [eS]; omega), zbd_s, eS, ln, e11, if_pos (show 0 ≤ S 11 d 0 0 ∧ S 11 d 0 0 < S 0 0 16 0 from ⟨h12.1, hv.1⟩), if_neg (by decide), zck_b h12, eS, p.2.2.2.1, if_pos hv.2, if_neg (by decide)]
          · refine Pd.refused hR hs (a := S 11 d 0 3) ?_ ?_
            · unfold zf_O_toss zf_O_toss_84
              rw [pf_O_isShelf, zbd_s, if_pos hd, if_neg (by decide), zck_b hd, if_neg h0, if_neg h3, if_pos h2, pf_L_has, zbd_s, q2.1, q2.2.2.1]
              by_cases z : S 11 d 0 0 < S 0 0 16 0
              · rw [if_pos (show 0 ≤ S 11 d 0 0 ∧ S 11 d 0 0 < S 0 0 16 0 from ⟨h12.1, z⟩), if_neg (by decide), zck_b h12, if_neg (fun y => hv ⟨z, y⟩)]
              · rw [if_neg (show ¬ (0 ≤ S 11 d 0 0 ∧ S 11 d 0 0 < S 0 0 16 0) from fun y => z y.2), if_pos rfl]
            · unfold zf_M_toss zf_M_toss_77 zf_M_toss_78
              rw [zlt_v, pf_M_isShelf, zbd_s, if_pos hd, if_neg (by decide), pf_M_noThing hd, zbd_s, e91, if_neg h0, if_neg h3, if_pos rfl, zck_b hd, if_pos h2, pf_M_isLaw _ (by rw [eS]; omega), zbd_s, eS, ln, e11]
              by_cases z : S 11 d 0 0 < S 0 0 16 0
              · have p := hl (S 11 d 0 0) h12.1 z
                unfold Rl1 at p
                rw [if_pos (show 0 ≤ S 11 d 0 0 ∧ S 11 d 0 0 < S 0 0 16 0 from ⟨h12.1, z⟩), if_neg (by decide), zck_b h12, eS, p.2.2.2.1, if_neg (fun y => hv ⟨z, y⟩), if_pos rfl, zck_b hd, e11]
              · rw [if_neg (show ¬ (0 ≤ S 11 d 0 0 ∧ S 11 d 0 0 < S 0 0 16 0) from fun y => z y.2), if_pos rfl, if_pos rfl, zck_b hd, e11]
        · have q1 := q.2.2.2.1 (by omega)
          refine Pd.refused hR hs (a := flS (S 11 d 0 0) (S 11 d 0 2)) ?_ ?_
          · unfold zf_O_toss zf_O_toss_84
            rw [pf_O_isShelf, zbd_s, if_pos hd, if_neg (by decide), zck_b hd, if_neg h0, if_neg h3, if_neg h2, q1.2.1]
          · unfold zf_M_toss flS
            rw [zlt_v, pf_M_isShelf, zbd_s, if_pos hd, if_neg (by decide), pf_M_noThing hd, zbd_s, e91, if_neg h0, if_neg h3, if_pos rfl, zck_b hd, if_neg h2, e11, e11, zw_in (x := S 11 d 0 2 + 100) (by omega) (by omega)]
            simp only [ite_some]
  · refine Pd.refused hR hs (a := -1) ?_ ?_
    · unfold zf_O_toss
      rw [pf_O_isShelf, zbd_s, if_neg hd, if_pos rfl]
    · unfold zf_M_toss
      rw [zlt_v, pf_M_isShelf, zbd_s, if_neg hd, if_pos rfl]
