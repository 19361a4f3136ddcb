/-! ===== weather and rain: class on S, reference on T ===== -/
def lst (t : Int) : Int := if t = 0 then -128 else if t = 1 then -32768 else -2147483648
def Rk2 (S T : Sg) (r w k : Int) : Prop := T 5 w 32 k = S 13 r k 0 ∧ T 5 w 33 k = S 13 r k 1 ∧ (0 ≤ S 13 r k 0 ∧ S 13 r k 0 ≤ 2) ∧ (0 ≤ S 13 r k 1 ∧ S 13 r k 1 ≤ 120) ∧ ∀ i, 0 ≤ i → i < S 13 r k 1 → T 7 w k i = S 14 r k i
theorem pf_isMissing {S : Sg} {r k x : Int} (hx : 0 ≤ x ∧ x < 120) : zf_Y_isMissing r k x S = some (if S 14 r k x = lst (S 13 r k 0) then 1 else 0, S) := by
  unfold zf_Y_isMissing zf_Y_isMissing_28 lst
  simp only [zck_b hx]
  by_cases h0 : S 13 r k 0 = 0
  · rw [if_pos h0, if_pos h0]; split <;> rfl
  · by_cases h1 : S 13 r k 0 = 1
    · rw [if_neg h0, if_neg h0, if_pos h1, if_pos h1]; split <;> rfl
    · rw [if_neg h0, if_neg h0, if_neg h1, if_neg h1]; split <;> rfl
theorem zcmp_0 {a b : Int} : (zcmp a b = 0) = (a = b) := by
  unfold zcmp
  by_cases h : a < b
  · rw [if_pos h]; simp; omega
  · by_cases h2 : a = b
    · rw [if_neg h, if_pos h2]; simp [h2]
    · rw [if_neg h, if_neg h2]; simp [h2]
theorem pf_W_missing {T : Sg} {w k x : Int} (hk : 0 ≤ k ∧ k < 2) (hx : 0 ≤ x ∧ x < 120) (hs : x < T 5 w 33 k) : zf_W_missing w k x T = some (if T 7 w k x = lst (T 5 w 32 k) then 1 else 0, T) := by
  unfold zf_W_missing zf_W_leastOf lst
  rw [zck_b hk, if_neg (by omega), zck_b hx, zck_b hk]
  by_cases h0 : T 5 w 32 k = 0
  · rw [if_pos h0, if_pos h0, zbd_s]; simp only [zcmp_0]; split <;> rfl
  · by_cases h1 : T 5 w 32 k = 1
    · rw [if_neg h0, if_neg h0, if_pos h1, if_pos h1, zbd_s]; simp only [zcmp_0]; split <;> rfl
    · rw [if_neg h0, if_neg h0, if_neg h1, if_neg h1, zbd_s]; simp only [zcmp_0]; split <;> rfl
theorem mean_end {sum n : Int} (hn : 1 ≤ n) (hs : 0 ≤ sum ∧ sum ≤ 2147483647 * n) (hn4 : n ≤ 4) : zw (zldv sum n) = sum.tdiv n ∧ 0 ≤ sum.tdiv n ∧ sum.tdiv n ≤ 2147483647 := by
  have h1 : 0 ≤ sum.tdiv n := Int.tdiv_nonneg hs.1 (by omega)
  have h2 : sum.tdiv n ≤ 2147483647 := by
    rw [Int.tdiv_eq_ediv_of_nonneg hs.1]
    exact Int.ediv_le_of_le_mul (by omega) hs.2
  refine ⟨?_, h1, h2⟩
  unfold zldv
  rw [zv_id (by unfold zm; omega), zw_in (by omega) (by omega)]
theorem pl_mean {S T : Sg} {r w k m wk : Int} (hk : 0 ≤ k ∧ k < 2) (hR : Rk2 S T r w k) (hz : ∀ i, zn (S 14 r k i)) (hm : 0 ≤ m ∧ m < 30) (hwk : zdiv wk 4 = m) : ∀ (c n n2 : Nat) (sum cnt j : Int), 0 ≤ j → j + c = 4 → c < n → c < n2 → 0 ≤ cnt → cnt ≤ j → (0 ≤ sum ∧ sum ≤ 2147483647 * cnt) →
    ∃ v, zf_Y_meanOfMonth_8 r k n m sum cnt j S = some (v, S) ∧ zf_W_skyOf_46 w n2 k wk sum cnt (4 * m + j) T = some (v, T) ∧ 0 ≤ v ∧ v ≤ 2147483647
  | 0, n + 1, n2 + 1, sum, cnt, j, hj, hc, _, _, h0, h1, hs => by
    rw [zf_Y_meanOfMonth_8, if_pos (show (4 : Int) ≤ j by omega), zf_W_skyOf_46, hwk, zw_in (x := m * 4) (by omega) (by omega), zw_in (x := m * 4 + 4) (by omega) (by omega), if_pos (show m * 4 + 4 ≤ 4 * m + j by omega)]
    by_cases hcn : cnt = 0
    · rw [if_pos hcn, if_pos hcn]; exact ⟨0, rfl, rfl, by decide, by decide⟩
    · have e := mean_end (sum := sum) (n := cnt) (by omega) hs (by omega)
      rw [if_neg hcn, if_neg hcn, zck_b hcn, zck_b hcn, e.1]
      exact ⟨_, rfl, rfl, e.2⟩
  | c + 1, n + 1, n2 + 1, sum, cnt, j, hj, hc, h3, h4, h0, h1, hs => by
    obtain ⟨q1, q2, q3, q4, q5⟩ := hR
    rw [zf_Y_meanOfMonth_8, if_neg (show ¬ (4 : Int) ≤ j by omega), zf_W_skyOf_46, hwk, zw_in (x := m * 4) (by omega) (by omega), zw_in (x := m * 4 + 4) (by omega) (by omega), if_neg (show ¬ m * 4 + 4 ≤ 4 * m + j by omega), zlt_v, zw_in (x := 4 * m) (by omega) (by omega), zw_in (x := 4 * m + j) (by omega) (by omega), zck_b hk, q2]
    unfold zf_Y_meanOfMonth_58 zf_W_skyOf_99
    simp only [zlt_v]
    rw [zw_in (x := j + 1) (by omega) (by omega), zw_in (x := 4 * m + j + 1) (by omega) (by omega), show 4 * m + j + 1 = 4 * m + (j + 1) by omega]
    by_cases hsz : S 13 r k 1 ≤ 4 * m + j
    · rw [if_pos hsz, if_pos hsz]
      exact pl_mean hk ⟨q1, q2, q3, q4, q5⟩ hz hm hwk c n n2 sum cnt (j + 1) (by omega) (by omega) (by omega) (by omega) h0 (by omega) hs
    · have hv := q5 (4 * m + j) (by omega) (by omega)
      rw [if_neg hsz, if_neg hsz, pf_isMissing (by omega), pf_W_missing hk (by omega) (by omega), zbd_s, zbd_s, hv, q1]
      by_cases hms : S 14 r k (4 * m + j) = lst (S 13 r k 0)
      · rw [if_pos hms, if_neg (by decide), if_neg (by decide)]
        exact pl_mean hk ⟨q1, q2, q3, q4, q5⟩ hz hm hwk c n n2 sum cnt (j + 1) (by omega) (by omega) (by omega) (by omega) h0 (by omega) hs
      · have hzz := hz (4 * m + j)
        unfold zn at hzz
        rw [if_neg hms, if_pos rfl, if_pos rfl, zck_b (by omega), zck_b (by omega), zv_id (x := sum + max 0 (S 14 r k (4 * m + j))) (by unfold zm; omega), zw_in (x := cnt + 1) (by omega) (by omega)]
        exact pl_mean hk ⟨q1, q2, q3, q4, q5⟩ hz hm hwk c n n2 _ (cnt + 1) (j + 1) (by omega) (by omega) (by omega) (by omega) (by omega) (by omega) (by omega)
theorem pf_sky {S T : Sg} {r w k x : Int} (hk : 0 ≤ k ∧ k < 2) (hR : Rk2 S T r w k) (hz : ∀ i, zn (S 14 r k i)) (hx : 0 ≤ x ∧ x ≤ 400) : ∃ v, zf_Y_at r k x S = some (v, S) ∧ zf_W_skyOf w k x T = some (v, T) ∧ 0 ≤ v ∧ v ≤ 2147483647 := by
  obtain ⟨q1, q2, q3, q4, q5⟩ := id hR
  unfold zf_Y_at zf_W_skyOf
  rw [zck_b hk, if_neg (by omega), q2]
  by_cases hs : x < S 13 r k 1
  · have hv := q5 x hx.1 hs
    have hzz := hz x
    unfold zn at hzz
    have hd : zdiv x 4 = x / 4 := by rw [zdiv_in (by unfold zn; omega) (by decide), Int.tdiv_eq_ediv_of_nonneg hx.1]
    rw [if_pos hs, if_pos hs, pf_isMissing (by omega), pf_W_missing hk (by omega) (by omega), zbd_s, zbd_s, hv, q1]
    by_cases hms : S 14 r k x = lst (S 13 r k 0)
    · rw [if_pos hms, if_neg (by decide), if_neg (by decide), zlt_v, hd, zw_in (x := x / 4 * 4) (by omega) (by omega)]
      obtain ⟨v, e1, e2, e3⟩ := pl_mean hk hR hz (m := x / 4) (wk := x) (by omega) hd 4 4096 4096 0 0 0 (by decide) (by decide) (by decide) (by decide) (by decide) (by decide) (by decide)
      unfold zf_Y_meanOfMonth
      rw [e1, zbd_s]
      refine ⟨v, rfl, ?_, e3⟩
      rw [show x / 4 * 4 = 4 * (x / 4) + 0 by omega]
      exact e2
    · rw [if_neg hms, if_pos rfl, if_pos rfl, zck_b (by omega), zck_b (by omega)]
      exact ⟨_, rfl, rfl, by omega, by omega⟩
  · rw [if_neg hs, if_neg hs]
    exact ⟨0, rfl, rfl, by decide, by decide⟩
theorem pf_O_isWeek (x : Int) (S : Sg) : zf_O_isWeek x S = some (if 0 ≤ x ∧ x ≤ 400 then 1 else 0, S) := by
  unfold zf_O_isWeek
  split
  · rw [if_neg (by omega)]
  · split
    · rw [if_neg (by omega)]
    · rw [if_pos (by omega)]
theorem pc_sky {S : Sg} (x b : Int) (hR : Ria S 0 0) (hz : ∀ k i, zn (S 14 0 k i)) : Pc T0 S (zf_O_sky x (if b = 0 then 0 else 1)) (zf_M_sky x (if b = 0 then 0 else 1)) := by
  by_cases hx : 0 ≤ x ∧ x ≤ 400
  · have h2 : ∀ k, 0 ≤ k ∧ k < 2 → Rk2 S (zu S 9 0 0 4 0) 0 0 k := by
      intro k hk
      have := hR.2.2.2.2.2 k hk.1 hk.2
      unfold Rk2
      rw [nS (by omega), nS (by omega)]
      refine ⟨this.1, this.2.1, this.2.2.1, this.2.2.2.1, fun i a b => ?_⟩
      rw [nS (by omega)]
      exact this.2.2.2.2 i a b
    by_cases hb : b = 0
    · obtain ⟨v, e1, e2, -⟩ := pf_sky (by decide) (h2 0 (by decide)) (hz 0) hx
      refine Pc.same hR (a := v) ?_ ?_
      · unfold zf_O_sky
        rw [pf_O_isWeek, zbd_s, if_pos hx, if_neg (by decide), if_pos hb, if_pos rfl, e1, zbd_s]
      · unfold zf_M_sky zf_M_sky_29
        rw [zlt_v, pf_M_in, zbd_s, if_pos hx, if_neg (by decide), if_pos hb, if_pos rfl, e2, zbd_s]
    · obtain ⟨v, e1, e2, -⟩ := pf_sky (by decide) (h2 1 (by decide)) (hz 1) hx
      refine Pc.same hR (a := v) ?_ ?_
      · unfold zf_O_sky
        rw [pf_O_isWeek, zbd_s, if_pos hx, if_neg (by decide), if_neg hb, if_neg (by decide), e1, zbd_s]
      · unfold zf_M_sky zf_M_sky_29
        rw [zlt_v, pf_M_in, zbd_s, if_pos hx, if_neg (by decide), if_neg hb, if_neg (by decide), e2, zbd_s]
  · refine Pc.same hR (a := -1) ?_ ?_
    · unfold zf_O_sky
      rw [pf_O_isWeek, zbd_s, if_neg hx, if_pos rfl]
    · unfold zf_M_sky
      rw [zlt_v, pf_M_in, zbd_s, if_neg hx, if_pos rfl]
