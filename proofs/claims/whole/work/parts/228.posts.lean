/-! ===== posts, stores: post, open, store, rank, order, due ===== -/
theorem pf_Q_has (r x : Int) (S : Sg) : zf_Q_has r x S = some (if 0 ≤ x ∧ x < S 0 r 26 0 then 1 else 0, S) := by
  unfold zf_Q_has
  split
  · rw [if_neg (by omega)]
  · split
    · rw [if_neg (by omega)]
    · rw [if_pos (by omega)]
theorem pf_M_isPost {S : Sg} (x : Int) (h : 0 ≤ S 5 0 0 25 ∧ S 5 0 0 25 ≤ 8) : zf_M_isPost x S = some (if 0 ≤ x ∧ x < S 5 0 0 25 then 1 else 0, S) := by
  unfold zf_M_isPost
  rw [pf_M_in, zbd_s, zw_in (by omega) (by omega), zck_b (b01 _)]
  congr 2
  split
  · rw [if_pos (by omega)]
  · rw [if_neg (by omega)]
theorem pf_O_isGood (x : Int) (S : Sg) : zf_O_isGood x S = some (if 0 ≤ x ∧ x < 4 then 1 else 0, S) := by
  unfold zf_O_isGood
  split
  · rw [if_neg (by omega)]
  · split
    · rw [if_neg (by omega)]
    · rw [if_pos (by omega)]
theorem pf_M_isGood (x : Int) (S : Sg) : zf_M_isGood x S = some (if 0 ≤ x ∧ x < 4 then 1 else 0, S) := by
  unfold zf_M_isGood
  rw [pf_M_in, zbd_s, zck_b (b01 _)]
  congr 2
  split
  · rw [if_pos (by omega)]
  · rw [if_neg (by omega)]
theorem eSn (S : Sg) (v : Int) : ∀ k i, zu S 9 0 0 4 v 5 0 k i = S 5 0 k i := fun _ _ => ng (by decide)
theorem pc_post {S : Sg} (x y z : Int) (hR : Ria S 0 0) : Pc Tq S (zf_O_post x y z) (zf_M_post x y z) := by
  obtain ⟨hn, hn2, hpp⟩ := hR.2.2.2.1
  have eS := eSn S 0
  by_cases hb : (0 ≤ x ∧ x ≤ 7) ∧ (1 ≤ y ∧ y ≤ 3) ∧ (0 ≤ z ∧ z ≤ 3)
  · obtain ⟨hx, hy, hz⟩ := hb
    by_cases h8 : S 0 0 26 0 < 8
    · have hz0 : zw (S 0 0 26 0 + 1) = S 0 0 26 0 + 1 := zw_in (by omega) (by omega)
      refine ⟨S 0 0 26 0, zu (zu (zu (zu (zu S 0 0 27 (S 0 0 26 0) x) 0 0 28 (S 0 0 26 0) y) 0 0 29 (S 0 0 26 0) z) 0 0 30 (S 0 0 26 0) 1) 0 0 26 0 (S 0 0 26 0 + 1), zu (zu (zu (zu (zu (zu (zu (zu (zu (zu (zu S 0 0 27 (S 0 0 26 0) x) 0 0 28 (S 0 0 26 0) y) 0 0 29 (S 0 0 26 0) z) 0 0 30 (S 0 0 26 0) 1) 0 0 26 0 (S 0 0 26 0 + 1)) 9 0 0 4 0) 5 0 0 25 (S 0 0 26 0 + 1)) 5 0 21 (S 0 0 26 0) x) 5 0 22 (S 0 0 26 0) y) 5 0 23 (S 0 0 26 0) z) 5 0 24 (S 0 0 26 0) 1, ?_, ?_, hR.withPo ?_ ?_ ⟨?_, ?_, ?_⟩, ?_⟩
      · unfold zf_O_post zf_Q_add
        rw [if_neg (by omega), if_neg (by omega), if_neg (by omega), if_neg (by omega), if_neg (by omega), if_pos (by omega), if_pos h8]
        simp only [zlt_v, zck_b (show 0 ≤ S 0 0 26 0 ∧ S 0 0 26 0 < 8 by omega), hz0, zbd_s]
      · have e5 : zu (zu (zu (zu (zu (zu S 0 0 27 (S 0 0 26 0) x) 0 0 28 (S 0 0 26 0) y) 0 0 29 (S 0 0 26 0) z) 0 0 30 (S 0 0 26 0) 1) 0 0 26 0 (S 0 0 26 0 + 1)) 9 0 0 4 0 5 0 0 25 = S 0 0 26 0 := by simp [zu, hn]
        unfold zf_M_post
        rw [zlt_v, pf_M_in, zbd_s, if_pos hx, if_neg (by decide), pf_M_in, zbd_s, if_pos hy, if_neg (by decide), pf_M_in, zbd_s, if_pos hz, if_neg (by decide), e5, if_neg (by omega)]
        simp only [zlt_v, zck_b (show 0 ≤ S 0 0 26 0 ∧ S 0 0 26 0 < 8 by omega), hz0]
      · intro g r k hh; unfold Tq T0 at hh; simp (discharger := omega) only [zu_ne]
      · intro i hi; simp [zu, hi]
      · simp [zu]
      · simp [zu]; omega
      · intro i a b
        simp [zu] at b
        by_cases e : i = S 0 0 26 0
        · unfold Rq1; simp [zu, e]; omega
        · have := hpp i a (by omega)
          unfold Rq1 at this ⊢; simp [zu, e]; omega
      · intro g r k hh; unfold Tq T0 at hh; simp (discharger := omega) only [zu_ne]
    · refine Pc.refused Tq0 hR (a := -2) ?_ ?_
      · unfold zf_O_post zf_Q_add
        rw [if_neg (by omega), if_neg (by omega), if_neg (by omega), if_neg (by omega), if_neg (by omega), if_pos (by omega), if_neg h8, zbd_s]
      · unfold zf_M_post
        rw [zlt_v, pf_M_in, zbd_s, if_pos hx, if_neg (by decide), pf_M_in, zbd_s, if_pos hy, if_neg (by decide), pf_M_in, zbd_s, if_pos hz, if_neg (by decide), eS, hn, if_pos (by omega)]
  · refine Pc.refused Tq0 hR (a := -1) ?_ ?_
    · unfold zf_O_post
      repeat' split
      all_goals first | rfl | omega
    · unfold zf_M_post
      rw [zlt_v, pf_M_in, zbd_s]
      by_cases hx : 0 ≤ x ∧ x ≤ 7
      · rw [if_pos hx, if_neg (by decide), pf_M_in, zbd_s]
        by_cases hy : 1 ≤ y ∧ y ≤ 3
        · rw [if_pos hy, if_neg (by decide), pf_M_in, zbd_s, if_neg (show ¬ (0 ≤ z ∧ z ≤ 3) from fun q => hb ⟨hx, hy, q⟩), if_pos rfl]
        · rw [if_neg hy, if_pos rfl]
      · rw [if_neg hx, if_pos rfl]
theorem pc_open {S : Sg} (x b : Int) (hR : Ria S 0 0) : Pc Tq S (zf_O_open x (if b = 0 then 0 else 1)) (zf_M_open x (if b = 0 then 0 else 1)) := by
  obtain ⟨hn, hn2, hpp⟩ := hR.2.2.2.1
  have eS := eSn S 0
  by_cases hx : 0 ≤ x ∧ x < S 0 0 26 0
  · have q := hpp x hx.1 hx.2
    have q0 := q
    unfold Rq1 at q
    have h8 : 0 ≤ x ∧ x < 8 := by omega
    generalize hv : (if b = 0 then (0 : Int) else 1) = v
    have hv2 : v = 0 ∨ v = 1 := by rw [← hv]; split; exact Or.inl rfl; exact Or.inr rfl
    refine ⟨if S 0 0 30 x = v then 0 else 1, zu S 0 0 30 x v, zu (zu (zu S 0 0 30 x v) 9 0 0 4 0) 5 0 24 x v, ?_, ?_, hR.withPo ?_ ?_ ⟨?_, ?_, ?_⟩, ?_⟩
    · unfold zf_O_open zf_O_open_49
      rw [pf_Q_has, zbd_s, if_pos hx, if_neg (by decide), zck_b h8, zlt_v]
      simp only [zck_b h8, zlt_v]
      rcases hv2 with h | h
      · rw [if_pos h, h, zu_at]; split <;> rfl
      · rw [if_neg (by omega), h, zu_at]; split <;> rfl
    · have e5 : ∀ k i, zu (zu S 0 0 30 x v) 9 0 0 4 0 5 0 k i = S 5 0 k i := fun k i => by simp [zu]
      unfold zf_M_open zf_M_open_33 zf_M_open_51
      rw [zlt_v, pf_M_isPost _ (by rw [e5]; omega), zbd_s, e5, hn, if_pos hx, if_neg (by decide), zck_b h8, e5, q.2.2.2.1]
      simp only [zck_b h8, zlt_v]
      have hs : S 0 0 30 x = 0 ∨ S 0 0 30 x = 1 := by omega
      rcases hv2 with h | h <;> rcases hs with h2 | h2 <;> simp [h, h2]
    · intro g r k hh; unfold Tq T0 at hh; simp (discharger := omega) only [zu_ne]
    · intro i hi; simp [zu]
    · simp [zu, hn]
    · simp [zu]; omega
    · intro i a c
      simp [zu] at c
      have := hpp i a c
      unfold Rq1 at this ⊢
      by_cases e : i = x
      · simp [zu, e] at this ⊢; omega
      · simp [zu, e]; omega
    · intro g r k hh; unfold Tq T0 at hh; simp (discharger := omega) only [zu_ne]
  · refine Pc.refused Tq0 hR (a := -1) ?_ ?_
    · unfold zf_O_open
      rw [pf_Q_has, zbd_s, if_neg hx, if_pos rfl]
    · unfold zf_M_open
      rw [zlt_v, pf_M_isPost _ (by rw [eS]; omega), zbd_s, eS, hn, if_neg hx, if_pos rfl]
theorem pc_store {S : Sg} (x y : Int) (hR : Ria S 0 0) : Pc Ts S (zf_O_store x y) (zf_M_store x y) := by
  obtain ⟨hg, hn, hn2, hpp⟩ := hR.2.2.2.2.1
  have eS := eSn S 0
  by_cases hb : (0 ≤ x ∧ x < 4) ∧ (1 ≤ y ∧ y ≤ 1000)
  · obtain ⟨hx, hy⟩ := hb
    have q := hg x hx.1 hx.2
    unfold Rg1 at q
    have hz : zw (S 0 0 32 x + y) = S 0 0 32 x + y := zw_in (by omega) (by omega)
    by_cases h9 : S 0 0 32 x + y ≤ 9999
    · refine ⟨S 0 0 32 x + y, zu S 0 0 32 x (S 0 0 32 x + y), zu (zu (zu S 0 0 32 x (S 0 0 32 x + y)) 9 0 0 4 0) 5 0 25 x (S 0 0 32 x + y), ?_, ?_, hR.withSt ?_ ?_ ⟨?_, ?_, ?_, ?_⟩, ?_⟩
      · unfold zf_O_store
        rw [pf_O_isGood, zbd_s, if_pos hx, if_neg (by decide), if_neg (by omega), if_pos hy.2, zck_b hx, hz, if_pos h9, zlt_v, zu_at]
      · have e5 : ∀ k i, zu (zu S 0 0 32 x (S 0 0 32 x + y)) 9 0 0 4 0 5 0 k i = S 5 0 k i := fun k i => by simp [zu]
        unfold zf_M_store
        rw [zlt_v, pf_M_isGood, zbd_s, if_pos hx, if_neg (by decide), pf_M_in, zbd_s, if_pos hy, if_neg (by decide), zck_b hx, e5, q.1, hz, if_pos h9, zlt_v, zu_at]
      · intro g r k hh; unfold Ts T0 at hh; simp (discharger := omega) only [zu_ne]
      · intro i hi; simp [zu]
      · intro i a c
        have := hg i a c
        unfold Rg1 at this ⊢
        by_cases e : i = x
        · simp [zu, e] at this ⊢; omega
        · simp [zu, e]; omega
      · simp [zu, hn]
      · simp [zu]; omega
      · intro i a c
        simp [zu] at c
        have := hpp i a c
        unfold Ro1 at this ⊢
        simp [zu]; omega
      · intro g r k hh; unfold Ts T0 at hh; simp (discharger := omega) only [zu_ne]
    · refine Pc.refused Ts0 hR (a := -2) ?_ ?_
      · unfold zf_O_store
        rw [pf_O_isGood, zbd_s, if_pos hx, if_neg (by decide), if_neg (by omega), if_pos hy.2, zck_b hx, hz, if_neg h9]
      · unfold zf_M_store
        rw [zlt_v, pf_M_isGood, zbd_s, if_pos hx, if_neg (by decide), pf_M_in, zbd_s, if_pos hy, if_neg (by decide), zck_b hx, eS, q.1, hz, if_neg h9]
  · refine Pc.refused Ts0 hR (a := -1) ?_ ?_
    · unfold zf_O_store
      rw [pf_O_isGood, zbd_s]
      by_cases hx : 0 ≤ x ∧ x < 4
      · rw [if_pos hx, if_neg (by decide)]
        by_cases hy : y < 1
        · rw [if_pos hy]
        · rw [if_neg hy, if_neg (by omega)]
      · rw [if_neg hx, if_pos rfl]
    · unfold zf_M_store
      rw [zlt_v, pf_M_isGood, zbd_s]
      by_cases hx : 0 ≤ x ∧ x < 4
      · rw [if_pos hx, if_neg (by decide), pf_M_in, zbd_s, if_neg (show ¬ (1 ≤ y ∧ y ≤ 1000) from fun q => hb ⟨hx, q⟩), if_pos rfl]
      · rw [if_neg hx, if_pos rfl]
theorem pc_order {S : Sg} (x y : Int) (hR : Ria S 0 0) : Pc Ts S (zf_O_order x y) (zf_M_order x y) := by
  obtain ⟨hg, hn, hn2, hpp⟩ := hR.2.2.2.2.1
  have eS := eSn S 0
  by_cases hb : (0 ≤ x ∧ x < 4) ∧ (1 ≤ y ∧ y ≤ 500)
  · obtain ⟨hx, hy⟩ := hb
    by_cases h3 : S 0 0 31 3 < 30
    · have hz0 : zw (S 0 0 31 3 + 1) = S 0 0 31 3 + 1 := zw_in (by omega) (by omega)
      have hbn : 0 ≤ S 0 0 31 3 ∧ S 0 0 31 3 < 30 := by omega
      refine ⟨S 0 0 31 3, zu (zu (zu S 0 0 35 (S 0 0 31 3) x) 0 0 36 (S 0 0 31 3) y) 0 0 31 3 (S 0 0 31 3 + 1), zu (zu (zu (zu (zu (zu (zu S 0 0 35 (S 0 0 31 3) x) 0 0 36 (S 0 0 31 3) y) 0 0 31 3 (S 0 0 31 3 + 1)) 9 0 0 4 0) 5 0 28 (S 0 0 31 3) x) 5 0 29 (S 0 0 31 3) y) 5 0 0 33 (S 0 0 31 3 + 1), ?_, ?_, hR.withSt ?_ ?_ ⟨?_, ?_, ?_, ?_⟩, ?_⟩
      · unfold zf_O_order zf_T_addOrder
        rw [pf_O_isGood, zbd_s, if_pos hx, if_neg (by decide), if_neg (by omega), if_pos hy.2, if_pos h3]
        simp only [zlt_v, zck_b hbn, hz0, zbd_s]
      · have e5 : zu (zu (zu (zu S 0 0 35 (S 0 0 31 3) x) 0 0 36 (S 0 0 31 3) y) 0 0 31 3 (S 0 0 31 3 + 1)) 9 0 0 4 0 5 0 0 33 = S 0 0 31 3 := by simp [zu, hn]
        unfold zf_M_order
        rw [zlt_v, pf_M_isGood, zbd_s, if_pos hx, if_neg (by decide), pf_M_in, zbd_s, if_pos hy, if_neg (by decide), e5, if_neg (by omega), zck_b hbn, zlt_v]
        have e6 : ∀ (T : Sg) (a b : Int), zu T 5 0 28 a b 5 0 0 33 = T 5 0 0 33 := fun T a b => by simp [zu]
        have e7 : ∀ (T : Sg) (a b : Int), zu T 5 0 29 a b 5 0 0 33 = T 5 0 0 33 := fun T a b => by simp [zu]
        rw [e6, e5, zck_b hbn, zlt_v, e7, e6, e5, zlt_v, hz0]
      · intro g r k hh; unfold Ts T0 at hh; simp (discharger := omega) only [zu_ne]
      · intro i hi; simp [zu, hi]
      · intro i a c
        have := hg i a c
        unfold Rg1 at this ⊢
        simp [zu]; omega
      · simp [zu]
      · simp [zu]; omega
      · intro i a c
        simp [zu] at c
        by_cases e : i = S 0 0 31 3
        · unfold Ro1; simp [zu, e]; omega
        · have := hpp i a (by omega)
          unfold Ro1 at this ⊢
          simp [zu, e]; omega
      · intro g r k hh; unfold Ts T0 at hh; simp (discharger := omega) only [zu_ne]
    · refine Pc.refused Ts0 hR (a := -2) ?_ ?_
      · unfold zf_O_order zf_T_addOrder
        rw [pf_O_isGood, zbd_s, if_pos hx, if_neg (by decide), if_neg (by omega), if_pos hy.2, if_neg h3, zbd_s]
      · unfold zf_M_order
        rw [zlt_v, pf_M_isGood, zbd_s, if_pos hx, if_neg (by decide), pf_M_in, zbd_s, if_pos hy, if_neg (by decide), eS, hn, if_pos (by omega)]
  · refine Pc.refused Ts0 hR (a := -1) ?_ ?_
    · unfold zf_O_order
      rw [pf_O_isGood, zbd_s]
      by_cases hx : 0 ≤ x ∧ x < 4
      · rw [if_pos hx, if_neg (by decide)]
        by_cases hy : y < 1
        · rw [if_pos hy]
        · rw [if_neg hy, if_neg (by omega)]
      · rw [if_neg hx, if_pos rfl]
    · unfold zf_M_order
      rw [zlt_v, pf_M_isGood, zbd_s]
      by_cases hx : 0 ≤ x ∧ x < 4
      · rw [if_pos hx, if_neg (by decide), pf_M_in, zbd_s, if_neg (show ¬ (1 ≤ y ∧ y ≤ 500) from fun q => hb ⟨hx, q⟩), if_pos rfl]
      · rw [if_neg hx, if_pos rfl]
theorem pc_due {S : Sg} (x : Int) (hR : Ria S 0 0) : Pc T0 S (zf_O_due x) (zf_M_due x) := by
  obtain ⟨hg, hn, hn2, hpp⟩ := hR.2.2.2.2.1
  have eS := eSn S 0
  by_cases hx : 0 ≤ x ∧ x < S 0 0 31 3
  · have q := hpp x hx.1 hx.2
    unfold Ro1 at q
    have h3 : 0 ≤ x ∧ x < 30 := by omega
    refine Pc.same hR (a := S 0 0 36 x) ?_ ?_
    · unfold zf_O_due
      rw [if_neg (by omega), if_pos hx.2, zck_b h3]
    · unfold zf_M_due
      rw [zlt_v, eS, hn, pf_M_in, zbd_s, zw_in (x := S 0 0 31 3 - 1) (by omega) (by omega), if_pos (show 0 ≤ x ∧ x ≤ S 0 0 31 3 - 1 by omega), if_neg (by decide), zck_b h3, eS, q.2.1]
  · refine Pc.same hR (a := -1) ?_ ?_
    · unfold zf_O_due
      by_cases h : x < 0
      · rw [if_pos h]
      · rw [if_neg h, if_neg (by omega)]
    · unfold zf_M_due
      rw [zlt_v, eS, hn, pf_M_in, zbd_s, zw_in (x := S 0 0 31 3 - 1) (by omega) (by omega), if_neg (show ¬ (0 ≤ x ∧ x ≤ S 0 0 31 3 - 1) by omega), if_pos rfl]
