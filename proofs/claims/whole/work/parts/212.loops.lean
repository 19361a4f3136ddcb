/-! ===== sums over people, by both sides' loops ===== -/
def sF (f : Int → Int) (i : Int) : Nat → Int
  | 0 => 0
  | k + 1 => f i + sF f (i + 1) k
theorem sF_eq {f g : Int → Int} : ∀ (k : Nat) (i : Int), (∀ j, i ≤ j → j < i + k → f j = g j) → sF f i k = sF g i k
  | 0, _, _ => rfl
  | k + 1, i, h => by
    show f i + sF f (i + 1) k = g i + sF g (i + 1) k
    rw [h i (by omega) (by omega), sF_eq k (i + 1) (fun j a b => h j (by omega) (by omega))]
theorem sF_le {f : Int → Int} {m : Int} : ∀ (k : Nat) (i : Int), (∀ j, i ≤ j → j < i + k → 0 ≤ f j ∧ f j ≤ m) → 0 ≤ sF f i k ∧ sF f i k ≤ m * k
  | 0, _, _ => by simp [sF]
  | k + 1, i, h => by
    have h1 := h i (by omega) (by omega)
    have h2 := sF_le k (i + 1) (fun j a b => h j (by omega) (by omega))
    show 0 ≤ f i + sF f (i + 1) k ∧ f i + sF f (i + 1) k ≤ m * ((k + 1 : Nat) : Int)
    rw [show m * ((k + 1 : Nat) : Int) = m * k + m by rw [Int.natCast_add, Int.mul_add]; simp]
    omega
def hdC (S : Sg) (r h : Int) : Int → Int := fun p => if S 0 r 11 p = 0 ∧ S 0 r 8 p = h then 1 else 0
def hdM (S : Sg) (w h : Int) : Int → Int := fun p => if S 5 w 5 p = 0 ∧ S 5 w 2 p = h then 1 else 0
def inC (S : Sg) (r t : Int) : Int → Int := fun p => if S 0 r 11 p = t then 1 else 0
def inM (S : Sg) (w t : Int) : Int → Int := fun p => if S 5 w 5 p = t then 1 else 0
theorem pl_headsOf {S : Sg} {r h : Int} (hn : S 0 r 6 0 ≤ 40) : ∀ (k n : Nat) (m i : Int), 0 ≤ i → i + k = S 0 r 6 0 → k < n → 0 ≤ m → m + k ≤ 40 → zf_P_headsOf_4 r n h m i S = some (m + sF (hdC S r h) i k, S)
  | 0, n + 1, m, i, h0, hk, hn', hm, hm2 => by
    rw [zf_P_headsOf_4, if_pos (by omega)]
    simp [sF]
  | k + 1, n + 1, m, i, h0, hk, hn', hm, hm2 => by
    rw [zf_P_headsOf_4, if_neg (by omega), zck_b (by omega)]
    show _ = some (m + (hdC S r h i + sF (hdC S r h) (i + 1) k), S)
    unfold zf_P_headsOf_34
    simp only [zlt_v]
    rw [zw_in (x := i + 1) (by omega) (by omega), zw_in (x := m + 1) (by omega) (by omega)]
    by_cases h1 : S 0 r 11 i = 0
    · by_cases h2 : S 0 r 8 i = h
      · rw [if_pos h1, if_pos h2, pl_headsOf hn k n (m + 1) (i + 1) (by omega) (by omega) (by omega) (by omega) (by omega)]
        simp [hdC, h1, h2]; omega
      · rw [if_pos h1, if_neg h2, pl_headsOf hn k n m (i + 1) (by omega) (by omega) (by omega) (by omega) (by omega)]
        simp [hdC, h1, h2]
    · rw [if_neg h1, pl_headsOf hn k n m (i + 1) (by omega) (by omega) (by omega) (by omega) (by omega)]
      simp [hdC, h1]
theorem pf_P_headsOf {S : Sg} {r h : Int} (hn : 0 ≤ S 0 r 6 0 ∧ S 0 r 6 0 ≤ 40) : zf_P_headsOf r h S = some (sF (hdC S r h) 0 (S 0 r 6 0).toNat, S) := by
  unfold zf_P_headsOf
  rw [pl_headsOf hn.2 (S 0 r 6 0).toNat 4096 0 0 (by omega) (by omega) (by omega) (by omega) (by omega)]
  simp
theorem pl_in {S : Sg} {r h : Int} (hn : S 0 r 6 0 ≤ 40) : ∀ (k n : Nat) (m i : Int), 0 ≤ i → i + k = S 0 r 6 0 → k < n → 0 ≤ m → m + k ≤ 40 → zf_P_in_4 r n h m i S = some (m + sF (inC S r h) i k, S)
  | 0, n + 1, m, i, h0, hk, hn', hm, hm2 => by
    rw [zf_P_in_4, if_pos (by omega)]
    simp [sF]
  | k + 1, n + 1, m, i, h0, hk, hn', hm, hm2 => by
    rw [zf_P_in_4, if_neg (by omega), zck_b (by omega)]
    show _ = some (m + (inC S r h i + sF (inC S r h) (i + 1) k), S)
    unfold zf_P_in_25
    simp only [zlt_v]
    rw [zw_in (x := i + 1) (by omega) (by omega), zw_in (x := m + 1) (by omega) (by omega)]
    by_cases h1 : S 0 r 11 i = h
    · rw [if_pos h1, pl_in hn k n (m + 1) (i + 1) (by omega) (by omega) (by omega) (by omega) (by omega)]
      simp [inC, h1]; omega
    · rw [if_neg h1, pl_in hn k n m (i + 1) (by omega) (by omega) (by omega) (by omega) (by omega)]
      simp [inC, h1]
theorem pf_P_in {S : Sg} {r h : Int} (hn : 0 ≤ S 0 r 6 0 ∧ S 0 r 6 0 ≤ 40) : zf_P_in r h S = some (sF (inC S r h) 0 (S 0 r 6 0).toNat, S) := by
  unfold zf_P_in
  rw [pl_in hn.2 (S 0 r 6 0).toNat 4096 0 0 (by omega) (by omega) (by omega) (by omega) (by omega)]
  simp
theorem pl_W_heads {S : Sg} {r h : Int} (hn : S 5 r 0 1 ≤ 40) : ∀ (k n : Nat) (m i : Int), 0 ≤ i → i + k = S 5 r 0 1 → k < n → 0 ≤ m → m + k ≤ 40 → zf_W_heads_4 r n h m i S = some (m + sF (hdM S r h) i k, S)
  | 0, n + 1, m, i, h0, hk, hn', hm, hm2 => by
    rw [zf_W_heads_4, if_pos (by omega)]
    simp [sF]
  | k + 1, n + 1, m, i, h0, hk, hn', hm, hm2 => by
    rw [zf_W_heads_4, if_neg (by omega)]
    unfold zf_W_here zf_W_heads_35 zf_W_heads_36
    show _ = some (m + (hdM S r h i + sF (hdM S r h) (i + 1) k), S)
    rw [zck_b (by omega)]
    by_cases h1 : S 5 r 5 i = 0
    · rw [if_pos h1, zbd_s, if_neg (by decide), zck_b (by omega)]
      simp only [zlt_v]
      rw [zw_in (x := i + 1) (by omega) (by omega), zw_in (x := m + 1) (by omega) (by omega), zw_in (x := m + 0) (by omega) (by omega)]
      by_cases h2 : S 5 r 2 i = h
      · rw [if_pos h2, pl_W_heads hn k n (m + 1) (i + 1) (by omega) (by omega) (by omega) (by omega) (by omega)]
        simp [hdM, h1, h2]; omega
      · rw [if_neg h2, pl_W_heads hn k n (m + 0) (i + 1) (by omega) (by omega) (by omega) (by omega) (by omega)]
        simp [hdM, h1, h2]
    · rw [if_neg h1, zbd_s, if_pos rfl]
      simp only [zlt_v]
      rw [zw_in (x := i + 1) (by omega) (by omega), zw_in (x := m + 0) (by omega) (by omega), pl_W_heads hn k n (m + 0) (i + 1) (by omega) (by omega) (by omega) (by omega) (by omega)]
      simp [hdM, h1]
theorem pf_W_heads {S : Sg} {r h : Int} (hn : 0 ≤ S 5 r 0 1 ∧ S 5 r 0 1 ≤ 40) : zf_W_heads r h S = some (sF (hdM S r h) 0 (S 5 r 0 1).toNat, S) := by
  unfold zf_W_heads
  rw [pl_W_heads hn.2 (S 5 r 0 1).toNat 4096 0 0 (by omega) (by omega) (by omega) (by omega) (by omega)]
  simp
theorem pl_W_inState {S : Sg} {r h : Int} (hn : S 5 r 0 1 ≤ 40) : ∀ (k n : Nat) (m i : Int), 0 ≤ i → i + k = S 5 r 0 1 → k < n → 0 ≤ m → m + k ≤ 40 → zf_W_inState_4 r n h m i S = some (m + sF (inM S r h) i k, S)
  | 0, n + 1, m, i, h0, hk, hn', hm, hm2 => by
    rw [zf_W_inState_4, if_pos (by omega)]
    simp [sF]
  | k + 1, n + 1, m, i, h0, hk, hn', hm, hm2 => by
    rw [zf_W_inState_4, if_neg (by omega), zck_b (by omega)]
    unfold zf_W_inState_28
    show _ = some (m + (inM S r h i + sF (inM S r h) (i + 1) k), S)
    simp only [zlt_v]
    rw [zw_in (x := i + 1) (by omega) (by omega), zw_in (x := m + 1) (by omega) (by omega), zw_in (x := m + 0) (by omega) (by omega)]
    by_cases h1 : S 5 r 5 i = h
    · rw [if_pos h1, pl_W_inState hn k n (m + 1) (i + 1) (by omega) (by omega) (by omega) (by omega) (by omega)]
      simp [inM, h1]; omega
    · rw [if_neg h1, pl_W_inState hn k n (m + 0) (i + 1) (by omega) (by omega) (by omega) (by omega) (by omega)]
      simp [inM, h1]
theorem pf_W_inState {S : Sg} {r h : Int} (hn : 0 ≤ S 5 r 0 1 ∧ S 5 r 0 1 ≤ 40) : zf_W_inState r h S = some (sF (inM S r h) 0 (S 5 r 0 1).toNat, S) := by
  unfold zf_W_inState
  rw [pl_W_inState hn.2 (S 5 r 0 1).toNat 4096 0 0 (by omega) (by omega) (by omega) (by omega) (by omega)]
  simp
theorem hd_like {S : Sg} {r w h : Int} (hp : Rpp S r w) : sF (hdM S w h) 0 (S 5 w 0 1).toNat = sF (hdC S r h) 0 (S 0 r 6 0).toNat := by
  rw [hp.1]
  refine sF_eq _ _ (fun j a b => ?_)
  have q := hp.2.2 j a (by omega)
  unfold Rp1 at q
  simp [hdM, hdC, q]
theorem in_like {S : Sg} {r w h : Int} (hp : Rpp S r w) : sF (inM S w h) 0 (S 5 w 0 1).toNat = sF (inC S r h) 0 (S 0 r 6 0).toNat := by
  rw [hp.1]
  refine sF_eq _ _ (fun j a b => ?_)
  have q := hp.2.2 j a (by omega)
  unfold Rp1 at q
  simp [inM, inC, q]
/-- a week's need, a wage, of one of the people -/
def knd (S : Sg) (r p week : Int) : Int := kindS (S 0 r 11 p) (S 0 r 12 p) (S 0 r 7 p) (S 0 r 10 p) week
theorem pf_P_need {S : Sg} {r x w : Int} (hx : 0 ≤ x ∧ x < 40) (h1 : -5000 ≤ S 0 r 7 x ∧ S 0 r 7 x ≤ 400) (hw : 0 ≤ w ∧ w ≤ 400) : zf_P_need r x w S = some (needS (knd S r x w) (decide (0 ≤ S 0 r 14 x)), S) := by
  unfold zf_P_need zf_P_need_20 knd
  rw [pf_P_kind hx h1 hw, zbd_s, zck_b hx]
  by_cases h : S 0 r 14 x < 0
  · rw [if_pos h, show (0 : Int) = zbI false from rfl, pf_P_needOf, zbd_s, show decide (zbI false ≤ S 0 r 14 x) = false by simp [zbI]; omega]
  · rw [if_neg h, show (1 : Int) = zbI true from rfl, pf_P_needOf, zbd_s, show decide (0 ≤ S 0 r 14 x) = true by simp; omega]
theorem pf_P_wage {S : Sg} {r x w : Int} (hx : 0 ≤ x ∧ x < 40) (h1 : -5000 ≤ S 0 r 7 x ∧ S 0 r 7 x ≤ 400) (hw : 0 ≤ w ∧ w ≤ 400) : zf_P_wage r x w S = some (wageS (knd S r x w) (decide (0 ≤ S 0 r 14 x)), S) := by
  unfold zf_P_wage zf_P_wage_20 knd
  rw [pf_P_kind hx h1 hw, zbd_s, zck_b hx]
  by_cases h : S 0 r 14 x < 0
  · rw [if_pos h, show (0 : Int) = zbI false from rfl, pf_P_wageOf, zbd_s, show decide (zbI false ≤ S 0 r 14 x) = false by simp [zbI]; omega]
  · rw [if_neg h, show (1 : Int) = zbI true from rfl, pf_P_wageOf, zbd_s, show decide (0 ≤ S 0 r 14 x) = true by simp; omega]
def kndM (S : Sg) (w p : Int) : Int := kindS (S 5 w 5 p) (S 5 w 6 p) (S 5 w 1 p) (S 5 w 4 p) (S 5 w 0 0)
theorem pf_W_needOf {S : Sg} {r x : Int} (hx : 0 ≤ x ∧ x < 40) (h1 : -5000 ≤ S 5 r 1 x ∧ S 5 r 1 x ≤ 400) (hw : 0 ≤ S 5 r 0 0 ∧ S 5 r 0 0 ≤ 400) : zf_W_needOf r x S = some (needS (kndM S r x) (decide (0 ≤ S 5 r 8 x)), S) := by
  unfold zf_W_needOf zf_W_needOf_19 kndM
  rw [pf_W_kind hx h1 hw, zbd_s, zck_b hx]
  by_cases h : S 5 r 8 x < 0
  · rw [if_pos h, show (0 : Int) = zbI false from rfl, pf_W_need, zbd_s, show decide (zbI false ≤ S 5 r 8 x) = false by simp [zbI]; omega]
  · rw [if_neg h, show (1 : Int) = zbI true from rfl, pf_W_need, zbd_s, show decide (0 ≤ S 5 r 8 x) = true by simp; omega]
theorem pf_W_wageOf {S : Sg} {r x : Int} (hx : 0 ≤ x ∧ x < 40) (h1 : -5000 ≤ S 5 r 1 x ∧ S 5 r 1 x ≤ 400) (hw : 0 ≤ S 5 r 0 0 ∧ S 5 r 0 0 ≤ 400) : zf_W_wageOf r x S = some (wageS (kndM S r x) (decide (0 ≤ S 5 r 8 x)), S) := by
  unfold zf_W_wageOf zf_W_wageOf_19 kndM
  rw [pf_W_kind hx h1 hw, zbd_s, zck_b hx]
  by_cases h : S 5 r 8 x < 0
  · rw [if_pos h, show (0 : Int) = zbI false from rfl, pf_W_wage, zbd_s, show decide (zbI false ≤ S 5 r 8 x) = false by simp [zbI]; omega]
  · rw [if_neg h, show (1 : Int) = zbI true from rfl, pf_W_wage, zbd_s, show decide (0 ≤ S 5 r 8 x) = true by simp; omega]
