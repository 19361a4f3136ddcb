/-! ===== shelves: the relation; row, put, copy, weight, weather ===== -/
def zfl (S : Sg) (g : Nat) (r k a n v : Int) : Sg := fun g' r' k' i' => if g' = g ∧ r' = r ∧ k' = k ∧ a ≤ i' ∧ i' < n then v else S g' r' k' i'
theorem zfl_0 {S : Sg} {g : Nat} {r k a n v : Int} (h : n ≤ a) : zfl S g r k a n v = S := by
  funext g' r' k' i'
  exact if_neg (fun q => by omega)
theorem zfl_s {S : Sg} {g : Nat} {r k a n v : Int} (h : a < n) : zfl (zu S g r k a v) g r k (a + 1) n v = zfl S g r k a n v := by
  funext g' r' k' i'
  unfold zfl zu
  by_cases hc : g' = g ∧ r' = r ∧ k' = k
  · by_cases hi : i' = a
    · rw [if_neg (by omega), if_pos ⟨hc.1, hc.2.1, hc.2.2, hi⟩, if_pos ⟨hc.1, hc.2.1, hc.2.2, by omega, by omega⟩]
    · by_cases h2 : a ≤ i' ∧ i' < n
      · rw [if_pos ⟨hc.1, hc.2.1, hc.2.2, by omega, h2.2⟩, if_pos ⟨hc.1, hc.2.1, hc.2.2, h2⟩]
      · rw [if_neg (fun q => h2 ⟨by omega, q.2.2.2.2⟩), if_neg (fun q => hi q.2.2.2), if_neg (fun q => h2 q.2.2.2)]
  · rw [if_neg (fun q => hc ⟨q.1, q.2.1, q.2.2.1⟩), if_neg (fun q => hc ⟨q.1, q.2.1, q.2.2.1⟩), if_neg (fun q => hc ⟨q.1, q.2.1, q.2.2.1⟩)]
theorem zfl_ne {S : Sg} {g g' : Nat} {r k a n v r' k' : Int} (h : ¬ (g' = g ∧ r' = r ∧ k' = k)) : zfl S g r k a n v g' r' k' = S g' r' k' := by
  funext j
  exact if_neg (fun q => h ⟨q.1, q.2.1, q.2.2.1⟩)
theorem pl_fill {g0 : Nat} {r0 k0 : Int} {n0 : Nat} (hn : n0 ≤ 4000) : ∀ (k n : Nat) (v i : Int) (S : Sg), 0 ≤ i → i + k = n0 → k < n → zf_Ja_fill_5 g0 r0 k0 n0 n v i (n0 : Int) S = some (0, zfl S g0 r0 k0 i n0 v)
  | 0, n + 1, v, i, S, h0, hk, _ => by
    rw [zf_Ja_fill_5, if_pos (by omega), zfl_0 (by omega)]
  | k + 1, n + 1, v, i, S, h0, hk, _ => by
    rw [zf_Ja_fill_5, if_neg (by omega), zck_b (by omega), zlt_v, zlt_v, zw_in (by omega) (by omega), pl_fill hn k n v (i + 1) _ (by omega) (by omega) (by omega), zfl_s (by omega)]
theorem pf_fill {g0 : Nat} {r0 k0 : Int} {n0 : Nat} (hn : n0 ≤ 4000) (v : Int) (S : Sg) : zf_Ja_fill g0 r0 k0 n0 v S = some (0, zfl S g0 r0 k0 0 n0 v) := by
  unfold zf_Ja_fill
  rw [zlt_v, pl_fill hn n0 4096 v 0 S (by omega) (by omega) (by omega)]
theorem pl_row {x : Int} (hx : 0 ≤ x ∧ x < 8) : ∀ (k n : Nat) (i : Int) (S : Sg), 0 ≤ i → i + k = 120 → k < n → zf_M_row_60 n x i S = some (0, zfl S 10 x 0 i 120 0)
  | 0, n + 1, i, S, h0, hk, _ => by
    rw [zf_M_row_60, if_pos (by omega), zfl_0 (by omega)]
  | k + 1, n + 1, i, S, h0, hk, _ => by
    rw [zf_M_row_60, if_neg (by omega), zck_b hx, zck_b (by omega), zlt_v, zlt_v, zw_in (by omega) (by omega), pl_row hx k n (i + 1) _ (by omega) (by omega) (by omega), zfl_s (by omega)]
def hfS (k a : Int) : Int := if k = 1 then 10 + needS k false + wageS k false + k + a else if k = 5 then 2 * (10 + needS k false + wageS k false + k) else 10 + needS k false + wageS k false + k
def flS (k ho : Int) : Int := if k = 3 then -15 else if k = 5 then ho + 100 else ho
def Rs1 (S : Sg) (d : Int) : Prop :=
  S 9 0 1 d = S 2 d 0 0 ∧ (0 ≤ S 2 d 0 0 ∧ S 2 d 0 0 ≤ 3) ∧
  (S 2 d 0 0 = 3 → S 9 0 2 d = S 2 d 0 4 ∧ S 9 0 3 d = S 2 d 0 5 ∧ (0 ≤ S 2 d 0 4 ∧ S 2 d 0 4 ≤ 2) ∧ (0 ≤ S 2 d 0 5 ∧ S 2 d 0 5 ≤ 120) ∧ ∀ i, 0 ≤ i → i < S 2 d 0 5 → S 10 d 0 i = S 2 d 1 i) ∧
  (S 2 d 0 0 = 1 → S 2 d 0 1 = hfS (S 11 d 0 0) (S 11 d 0 1) ∧ S 2 d 0 2 = flS (S 11 d 0 0) (S 11 d 0 2) ∧ (0 ≤ S 11 d 0 0 ∧ S 11 d 0 0 ≤ 5) ∧ (0 ≤ S 11 d 0 1 ∧ S 11 d 0 1 ≤ 200) ∧ (0 ≤ S 11 d 0 2 ∧ S 11 d 0 2 < 12)) ∧
  (S 2 d 0 0 = 2 → S 2 d 0 3 = S 11 d 0 0 ∧ S 2 d 0 1 = 1000 + S 11 d 0 1 + S 11 d 0 2 ∧ S 2 d 0 2 = S 11 d 0 3 ∧ (0 ≤ S 11 d 0 0 ∧ S 11 d 0 0 < 12) ∧ (0 ≤ S 11 d 0 1 ∧ S 11 d 0 1 ≤ 3) ∧ (0 ≤ S 11 d 0 2 ∧ S 11 d 0 2 ≤ 120))
def Rsh (S : Sg) : Prop := ∀ d, 0 ≤ d → d < 8 → Rs1 S d
theorem Rs1.to {S S2 : Sg} {d : Int} (h : Rs1 S d) (h1 : S2 2 d 0 = S 2 d 0) (h2 : S2 2 d 1 = S 2 d 1) (h3 : S2 10 d 0 = S 10 d 0) (h4 : S2 11 d 0 = S 11 d 0) (h5 : S2 9 0 1 d = S 9 0 1 d) (h6 : S2 9 0 2 d = S 9 0 2 d) (h7 : S2 9 0 3 d = S 9 0 3 d) : Rs1 S2 d := by
  unfold Rs1 at *
  rw [h1, h2, h3, h4, h5, h6, h7]
  exact h
/-- rows of shelves, and the reference's beside them -/
def Tf (g : Nat) (r k : Int) : Prop := (g = 2) ∨ (g = 10) ∨ (g = 11) ∨ (g = 9 ∧ r = 0 ∧ 0 ≤ k ∧ k ≤ 3)
theorem Ria.shelf {S S2 : Sg} (h : Ria S 0 0) (hf : Fr Tf S S2) : Ria S2 0 0 := by
  obtain ⟨h1, h2, h3, h4, h5, h6⟩ := h
  have e : ∀ (g : Nat) (r k : Int), g ≠ 2 → g ≠ 10 → g ≠ 11 → g ≠ 9 → S2 g r k = S g r k := fun g r k a b c d => hf g r k (by unfold Tf; omega)
  exact ⟨h1.to (e _ _ _ (by decide) (by decide) (by decide) (by decide)) (e _ _ _ (by decide) (by decide) (by decide) (by decide)) (e _ _ _ (by decide) (by decide) (by decide) (by decide)) (e _ _ _ (by decide) (by decide) (by decide) (by decide)) (fun i _ => by rw [e _ _ _ (by decide) (by decide) (by decide) (by decide)]), h2.to (fun k _ _ => e _ _ _ (by decide) (by decide) (by decide) (by decide)) (fun k _ _ => e _ _ _ (by decide) (by decide) (by decide) (by decide)), h3.to (by rw [e _ _ _ (by decide) (by decide) (by decide) (by decide)]) (fun k _ _ => e _ _ _ (by decide) (by decide) (by decide) (by decide)) (fun k _ _ => e _ _ _ (by decide) (by decide) (by decide) (by decide)) (by rw [e _ _ _ (by decide) (by decide) (by decide) (by decide)]), h4.to (fun k _ _ => e _ _ _ (by decide) (by decide) (by decide) (by decide)) (fun k _ _ => e _ _ _ (by decide) (by decide) (by decide) (by decide)) (by rw [e _ _ _ (by decide) (by decide) (by decide) (by decide)]), h5.to (fun k _ _ => e _ _ _ (by decide) (by decide) (by decide) (by decide)) (fun k _ _ => e _ _ _ (by decide) (by decide) (by decide) (by decide)) (by rw [e _ _ _ (by decide) (by decide) (by decide) (by decide)]), h6.to (fun k _ _ => e _ _ _ (by decide) (by decide) (by decide) (by decide)) (fun k _ _ => e _ _ _ (by decide) (by decide) (by decide) (by decide)) (fun k _ _ => e _ _ _ (by decide) (by decide) (by decide) (by decide)) (e _ _ _ (by decide) (by decide) (by decide) (by decide)) (e _ _ _ (by decide) (by decide) (by decide) (by decide))⟩
theorem Rsh.none {S S2 : Sg} (h : Rsh S) (hf : Fr T0 S S2) : Rsh S2 := fun d a b => (h d a b).to (hf _ _ _ (by unfold T0; omega)) (hf _ _ _ (by unfold T0; omega)) (hf _ _ _ (by unfold T0; omega)) (hf _ _ _ (by unfold T0; omega)) (by rw [hf 9 0 1 (by unfold T0; omega)]) (by rw [hf 9 0 2 (by unfold T0; omega)]) (by rw [hf 9 0 3 (by unfold T0; omega)])
/-- the call answers alike, keeps what is alike, changes shelves alone -/
def Pd (S : Sg) (fo fm : Sg → Option (Int × Sg)) : Prop := ∃ (a : Int) (S1 S2 : Sg), fo S = some (a, S1) ∧ fm S1 = some (a, S2) ∧ Ria S2 0 0 ∧ Rsh S2 ∧ Fr Tf S S2
theorem Tf0 : ∀ g r k, T0 g r k → Tf g r k := fun g r k q => by unfold T0 at q; unfold Tf; omega
theorem Pd.refused {S : Sg} {fo fm : Sg → Option (Int × Sg)} (h : Ria S 0 0) (hs : Rsh S) {a : Int} (h1 : fo S = some (a, S)) (h2 : fm S = some (a, zu S 9 0 0 4 0)) : Pd S fo fm := ⟨a, S, _, h1, h2, h.none pi_0, hs.none pi_0, T0n Tf0 pi_0⟩
theorem Pd.made {S : Sg} {fo fm : Sg → Option (Int × Sg)} (h : Ria S 0 0) (hs : Rsh S) {a : Int} {S1 S2 : Sg} (h1 : fo S = some (a, S1)) (h2 : fm S1 = some (a, S2)) (d : Int) (hd : Rs1 S2 d) (hf : Fr Tf S S2) (ho : ∀ (g : Nat) (r k : Int), r ≠ d → (g = 2 ∨ g = 10 ∨ g = 11) → S2 g r k = S g r k) (ho9 : ∀ k i, 1 ≤ k → k ≤ 3 → i ≠ d → S2 9 0 k i = S 9 0 k i) : Pd S fo fm := by
  refine ⟨a, S1, S2, h1, h2, h.shelf hf, fun e a b => ?_, hf⟩
  by_cases q : e = d
  · rw [q]; exact hd
  · exact (hs e a b).to (ho _ _ _ q (Or.inl rfl)) (ho _ _ _ q (Or.inl rfl)) (ho _ _ _ q (Or.inr (Or.inl rfl))) (ho _ _ _ q (Or.inr (Or.inr rfl))) (ho9 1 e (by decide) (by decide) q) (ho9 2 e (by decide) (by decide) q) (ho9 3 e (by decide) (by decide) q)
theorem pf_O_isShelf (x : Int) (S : Sg) : zf_O_isShelf x S = some (if 0 ≤ x ∧ x < 8 then 1 else 0, S) := by
  unfold zf_O_isShelf
  split
  · rw [if_neg (by omega)]
  · split
    · rw [if_neg (by omega)]
    · rw [if_pos (by omega)]
theorem pf_M_isShelf (x : Int) (S : Sg) : zf_M_isShelf x S = some (if 0 ≤ x ∧ x < 8 then 1 else 0, S) := by
  unfold zf_M_isShelf
  rw [pf_M_in, zbd_s, zck_b (b01 _)]
  congr 2
  split
  · rw [if_pos (by omega)]
  · rw [if_neg (by omega)]
theorem pd_row {S : Sg} (d t n : Int) (hR : Ria S 0 0) (hs : Rsh S) : Pd S (zf_O_row d t n) (zf_M_row d t n) := by
  by_cases hd : 0 ≤ d ∧ d < 8
  · by_cases ht : 0 ≤ t ∧ t ≤ 2
    · by_cases hn : n ≤ 120
      · by_cases hn0 : 0 ≤ n
        · refine Pd.made hR hs (a := 0) (S1 := zfl (zu (zu (zu S 2 d 0 0 3) 2 d 0 4 t) 2 d 0 5 n) 2 d 1 0 120 0) (S2 := zfl (zu (zu (zu (zu (zfl (zu (zu (zu S 2 d 0 0 3) 2 d 0 4 t) 2 d 0 5 n) 2 d 1 0 120 0) 9 0 0 4 0) 9 0 1 d 3) 9 0 2 d t) 9 0 3 d n) 10 d 0 0 120 0) ?_ ?_ d ?_ ?_ ?_ ?_
          · unfold zf_O_row zf_S_takeRow
            rw [pf_O_isShelf, zbd_s, if_pos hd, if_neg (by decide), if_neg (by omega), if_neg (by omega), if_pos hn, if_pos hn0, zck_b hd, zlt_v, zlt_v, zlt_v, pf_fill (by decide), zbd_s, zbd_s]
            rfl
          · unfold zf_M_row
            rw [zlt_v, pf_M_isShelf, zbd_s, if_pos hd, if_neg (by decide), pf_M_in, zbd_s, if_pos ht, if_neg (by decide), if_pos hn, if_pos hn0, zck_b hd, zlt_v, zlt_v, zlt_v, pl_row hd 120 4096 0 _ (by decide) (by decide) (by decide)]
          · unfold Rs1
            refine ⟨by simp [zfl, zu], by simp [zfl, zu], fun _ => ⟨by simp [zfl, zu], by simp [zfl, zu], by simp [zfl, zu]; omega, by simp [zfl, zu]; omega, fun i a b => ?_⟩, fun q => by simp [zfl, zu] at q, fun q => by simp [zfl, zu] at q⟩
            simp [zfl, zu] at b
            simp [zfl, zu, show i < 120 by omega, a]
          · intro g r k hh; unfold Tf at hh; simp (discharger := omega) only [zu_ne, zfl_ne]
          · intro g r k hr hg; simp (discharger := omega) only [zu_ne, zfl_ne]
          · intro k i h1 h3 hi; simp [zfl, zu, hi, show ¬ k = 0 by omega]
        · refine Pd.refused hR hs (a := -14) ?_ ?_
          · unfold zf_O_row
            rw [pf_O_isShelf, zbd_s, if_pos hd, if_neg (by decide), if_neg (by omega), if_neg (by omega), if_pos hn, if_neg hn0]
          · unfold zf_M_row
            rw [zlt_v, pf_M_isShelf, zbd_s, if_pos hd, if_neg (by decide), pf_M_in, zbd_s, if_pos ht, if_neg (by decide), if_pos hn, if_neg hn0]
      · refine Pd.refused hR hs (a := -1) ?_ ?_
        · unfold zf_O_row
          rw [pf_O_isShelf, zbd_s, if_pos hd, if_neg (by decide), if_neg (by omega), if_neg (by omega), if_neg hn]
        · unfold zf_M_row
          rw [zlt_v, pf_M_isShelf, zbd_s, if_pos hd, if_neg (by decide), pf_M_in, zbd_s, if_pos ht, if_neg (by decide), if_neg hn]
    · refine Pd.refused hR hs (a := -1) ?_ ?_
      · unfold zf_O_row
        rw [pf_O_isShelf, zbd_s, if_pos hd, if_neg (by decide)]
        by_cases z : t < 0
        · rw [if_pos z]
        · rw [if_neg z, if_pos (by omega)]
      · unfold zf_M_row
        rw [zlt_v, pf_M_isShelf, zbd_s, if_pos hd, if_neg (by decide), pf_M_in, zbd_s, if_neg ht, if_pos rfl]
  · refine Pd.refused hR hs (a := -1) ?_ ?_
    · unfold zf_O_row
      rw [pf_O_isShelf, zbd_s, if_neg hd, if_pos rfl]
    · unfold zf_M_row
      rw [zlt_v, pf_M_isShelf, zbd_s, if_neg hd, if_pos rfl]
