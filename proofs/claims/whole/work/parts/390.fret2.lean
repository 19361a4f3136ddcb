/-! ===== a week: discontent of each ===== -/
theorem Rw.fret {S T : Sg} {r w i v : Int} (h : Rw S T r w) (hv : 0 ≤ v ∧ v ≤ 99) : Rw (zu S 0 r 13 i v) (zu T 5 w 7 i v) r w := by
  refine h.step (AG.put (by unfold AK; omega) (by omega)) (BG.put (by unfold BK; omega)) (h.mc.to (zu_ne (by omega)) (zu_ne (by omega))) (h.mh.to (zu_ne (by omega)) (zu_ne (by omega)) (zu_ne (by omega)) (zu_ne (by omega)) (zu_ne (by omega)) (zu_ne (by omega))) ?_ (h.ms.to (zu_ne (by omega)) (zu_ne (by omega)) (zu_ne (by omega)) (zu_ne (by omega)))
  intro j p q
  have c := h.mp j p q
  by_cases e : j = i
  · subst e
    refine ⟨by rw [zu_ne (by omega), zu_ne (by omega)]; exact c.1, by rw [zu_at, zu_at], by rw [zu_ne (by omega), zu_ne (by omega)]; exact c.2.2.1, by rw [zu_ne (by omega), zu_ne (by omega)]; exact c.2.2.2.1, by rw [zu_ne (by omega)]; exact c.2.2.2.2.1, by rw [zu_at]; exact hv, by rw [zu_ne (by omega)]; exact c.2.2.2.2.2.2.1, by rw [zu_ne (by omega)]; exact c.2.2.2.2.2.2.2⟩
  · refine ⟨by rw [zu_ne (by omega), zu_ne (by omega)]; exact c.1, by rw [zu_pl e, zu_pl e]; exact c.2.1, by rw [zu_ne (by omega), zu_ne (by omega)]; exact c.2.2.1, by rw [zu_ne (by omega), zu_ne (by omega)]; exact c.2.2.2.1, by rw [zu_ne (by omega)]; exact c.2.2.2.2.1, by rw [zu_pl e]; exact c.2.2.2.2.2.1, by rw [zu_ne (by omega)]; exact c.2.2.2.2.2.2.1, by rw [zu_ne (by omega)]; exact c.2.2.2.2.2.2.2⟩
/-- discontent after a week of so many troubles -/
def disc (d v : Int) : Int := max 0 (min 99 (d + if v = 0 then -1 else v))
theorem disc_in (d v : Int) : 0 ≤ disc d v ∧ disc d v ≤ 99 := by
  unfold disc
  omega
theorem c_f163 {r x2 x4 x5 i a b : Int} (q : Int → Int → Int → Int → Sg → Option (Int × Sg)) {S : Sg} (hx : 0 ≤ i ∧ i < 40) (hd : 0 ≤ S 0 r 13 i ∧ S 0 r 13 i ≤ 99) (hv : 0 ≤ a + b ∧ a + b ≤ 20) : zf_A_fret_163 r q x2 x4 x5 i a b S = zf_A_fret_205 r q x2 x4 x5 i (zu S 0 r 13 i (disc (S 0 r 13 i) (a + b))) := by
  unfold zf_A_fret_163 zf_A_fret_184 disc
  rw [zw_in (x := a + b) (by omega) (by omega), zlt_v, zck_b hx]
  by_cases e : a + b = 0
  · rw [if_pos e, if_pos e, zw_in (x := S 0 r 13 i + -1) (by omega) (by omega), zlt_v, zck_b hx, zlt_v]
  · rw [if_neg e, if_neg e, zw_in (x := S 0 r 13 i + (a + b)) (by omega) (by omega), zlt_v, zck_b hx, zlt_v]
theorem c_f149 {r x2 x4 x5 i a b : Int} (q : Int → Int → Int → Int → Sg → Option (Int × Sg)) {S : Sg} (hx : 0 ≤ i ∧ i < 40) (hd : 0 ≤ S 0 r 13 i ∧ S 0 r 13 i ≤ 99) (hv : 0 ≤ a + b ∧ a + b ≤ 10) : zf_A_fret_149 r q x2 x4 x5 i a b S = zf_A_fret_205 r q x2 x4 x5 i (zu S 0 r 13 i (disc (S 0 r 13 i) (a + b + if x2 = 0 then 0 else 1))) := by
  unfold zf_A_fret_149
  rw [zw_in (x := a + b) (by omega) (by omega), zlt_v]
  by_cases e : x2 = 0
  · rw [if_pos e, if_pos e, c_f163 q hx hd (by omega)]
  · rw [if_neg e, if_neg e, c_f163 q hx hd (by omega)]
theorem c_f118 {r x2 x4 x5 i a b : Int} (q : Int → Int → Int → Int → Sg → Option (Int × Sg)) {S : Sg} (hx : 0 ≤ i ∧ i < 40) (hd : 0 ≤ S 0 r 13 i ∧ S 0 r 13 i ≤ 99) (h8 : 0 ≤ S 0 r 8 i ∧ S 0 r 8 i < 12) (hv : 0 ≤ a + b ∧ a + b ≤ 9) : zf_A_fret_118 r q x2 x4 x5 i a b S = zf_A_fret_205 r q x2 x4 x5 i (zu S 0 r 13 i (disc (S 0 r 13 i) (a + b + (if x5 = 0 then (if S 3 0 20 (S 0 r 8 i) = 1 then 1 else 0) else 0) + if x2 = 0 then 0 else 1))) := by
  unfold zf_A_fret_118 zf_A_fret_148
  rw [zw_in (x := a + b) (by omega) (by omega), zlt_v]
  by_cases e : x5 = 0
  · rw [if_pos e, if_pos e, zck_b hx, zck_b h8]
    by_cases e2 : S 3 0 20 (S 0 r 8 i) = 1
    · rw [if_pos e2, if_pos e2, c_f149 q hx hd (by omega)]
    · rw [if_neg e2, if_neg e2, c_f149 q hx hd (by omega)]
  · rw [if_neg e, if_neg e, c_f149 q hx hd (by omega)]
theorem c_f92 {r x2 x4 x5 i a b : Int} (q : Int → Int → Int → Int → Sg → Option (Int × Sg)) {S : Sg} (hx : 0 ≤ i ∧ i < 40) (hd : 0 ≤ S 0 r 13 i ∧ S 0 r 13 i ≤ 99) (h8 : 0 ≤ S 0 r 8 i ∧ S 0 r 8 i < 12) (hv : 0 ≤ a + b ∧ a + b ≤ 7) : zf_A_fret_92 r q x2 x4 x5 i a b S = zf_A_fret_205 r q x2 x4 x5 i (zu S 0 r 13 i (disc (S 0 r 13 i) (a + b + (if x4 = 0 then (if S 3 0 19 i = 1 then 2 else 0) else 0) + (if x5 = 0 then (if S 3 0 20 (S 0 r 8 i) = 1 then 1 else 0) else 0) + if x2 = 0 then 0 else 1))) := by
  unfold zf_A_fret_92 zf_A_fret_117
  rw [zw_in (x := a + b) (by omega) (by omega), zlt_v]
  by_cases e : x4 = 0
  · rw [if_pos e, if_pos e, zck_b hx]
    by_cases e2 : S 3 0 19 i = 1
    · rw [if_pos e2, if_pos e2, c_f118 q hx hd h8 (by omega)]
    · rw [if_neg e2, if_neg e2, c_f118 q hx hd h8 (by omega)]
  · rw [if_neg e, if_neg e, c_f118 q hx hd h8 (by omega)]
theorem c_f67 {r x2 x4 x5 i a : Int} (q : Int → Int → Int → Int → Sg → Option (Int × Sg)) {S : Sg} (hx : 0 ≤ i ∧ i < 40) (hd : 0 ≤ S 0 r 13 i ∧ S 0 r 13 i ≤ 99) (h8 : 0 ≤ S 0 r 8 i ∧ S 0 r 8 i < 12) (h5 : 0 ≤ S 0 r 5 (S 0 r 8 i) ∧ S 0 r 5 (S 0 r 8 i) ≤ 1) (hv : 0 ≤ a ∧ a ≤ 2) : zf_A_fret_67 r q x2 x4 x5 i a S = zf_A_fret_205 r q x2 x4 x5 i (zu S 0 r 13 i (disc (S 0 r 13 i) (a + S 0 r 5 (S 0 r 8 i) + (if x4 = 0 then (if S 3 0 19 i = 1 then 2 else 0) else 0) + (if x5 = 0 then (if S 3 0 20 (S 0 r 8 i) = 1 then 1 else 0) else 0) + if x2 = 0 then 0 else 1))) := by
  unfold zf_A_fret_67
  rw [zck_b hx, zck_b h8]
  by_cases e : S 0 r 5 (S 0 r 8 i) = 1
  · rw [if_pos e, c_f92 q hx hd h8 (by omega), e]
  · rw [if_neg e, c_f92 q hx hd h8 (by omega), show S 0 r 5 (S 0 r 8 i) = 0 by omega]
theorem m_f108 {w x1 x2 i a b : Int} (q : Int → Int → Int → Sg → Option (Int × Sg)) {T : Sg} (hx : 0 ≤ i ∧ i < 40) (hd : 0 ≤ T 5 w 7 i ∧ T 5 w 7 i ≤ 99) (hv : 0 ≤ a + b ∧ a + b ≤ 20) : zf_W_grumble_108 w q x1 x2 i a b T = zf_W_grumble_144 w q x1 x2 i (zu T 5 w 7 i (disc (T 5 w 7 i) (a + b))) := by
  unfold zf_W_grumble_108 zf_W_grumble_136 disc
  rw [zw_in (x := a + b) (by omega) (by omega), zlt_v, zck_b hx]
  by_cases e : a + b = 0
  · rw [if_pos e, if_pos e, zw_in (x := T 5 w 7 i + -1) (by omega) (by omega), zck_b hx, zlt_v]
  · rw [if_neg e, if_neg e, zw_in (x := T 5 w 7 i + (a + b)) (by omega) (by omega), zck_b hx, zlt_v]
theorem m_f81 {w x1 x2 i a b d : Int} (q : Int → Int → Int → Sg → Option (Int × Sg)) {T : Sg} (hx : 0 ≤ i ∧ i < 40) (hd : 0 ≤ T 5 w 7 i ∧ T 5 w 7 i ≤ 99) (ho : zf_W_oldIn w (T 5 w 2 i) T = some (d, T)) (hd1 : d = 0 ∨ d = 1) (hv : 0 ≤ a + b ∧ a + b ≤ 10) : zf_W_grumble_81 w q x1 x2 i a b T = zf_W_grumble_144 w q x1 x2 i (zu T 5 w 7 i (disc (T 5 w 7 i) (a + b + if x2 = 0 then d else 0))) := by
  unfold zf_W_grumble_81 zf_W_grumble_107
  rw [zw_in (x := a + b) (by omega) (by omega), zlt_v]
  by_cases e : x2 = 0
  · rw [if_pos e, if_pos e, zck_b hx, ho, zbd_s]
    rcases hd1 with e2 | e2
    · rw [if_pos e2, m_f108 q hx hd (by omega), e2]
    · rw [if_neg (by omega), m_f108 q hx hd (by omega), e2]
  · rw [if_neg e, if_neg e, m_f108 q hx hd (by omega)]
/-- what stays while discontent is noted -/
def FrF (r w : Int) (S T S2 T2 : Sg) : Prop := (∀ (g : Nat) (r' k : Int), ¬ (g = 0 ∧ r' = r ∧ k = 13) → S2 g r' k = S g r' k) ∧ (∀ (g : Nat) (r' k : Int), ¬ (g = 5 ∧ r' = w ∧ k = 7) → T2 g r' k = T g r' k)
theorem w_fret {r w L x4 x5 N : Int} (hL : L = 0 ∨ L = 1) : ∀ (c n n2 : Nat) (i : Int) (S T : Sg), 0 ≤ i → i + c = N → N ≤ 40 → S 0 r 6 0 = N → c < n → c < n2 → T 5 w 34 1 = L → (∀ m, 0 ≤ m → m < 40 → S 3 0 19 m = (if hasK (isCh S r m) 0 N.toNat = true then 1 else 0)) → (∀ d, 0 ≤ d → d < 12 → S 3 0 20 d = (if hasK (isOl S r d) 0 N.toNat = true then 1 else 0)) → Rw S T r w → ∃ S2 T2 : Sg, zf_A_fret_29 r n L x4 x5 i S = some (0, S2) ∧ zf_W_grumble_14 w n2 x4 x5 i T = some (0, T2) ∧ Rw S2 T2 r w ∧ FrF r w S T S2 T2
  | 0, n + 1, n2 + 1, i, S, T, hi, hc, h40, hN, _, _, hLT, h19, h20, h => by
    have hn := h.1.2.2.1.1
    rw [zf_A_fret_29, if_pos (show S 0 r 6 0 ≤ i by omega), zf_W_grumble_14, if_pos (show T 5 w 0 1 ≤ i by omega)]
    exact ⟨S, T, rfl, rfl, h, fun _ _ _ _ => rfl, fun _ _ _ _ => rfl⟩
  | c + 1, n + 1, n2 + 1, i, S, T, hi, hc, h40, hN, h1, h2, hLT, h19, h20, h => by
    have hpp := h.1.2.2.1
    have hn := hpp.1
    have hx : 0 ≤ i ∧ i < 40 := by omega
    obtain ⟨c1, c2, c3, c4, c5, c6, c7, c8, c9, c10, c11, c12, c13, c14, c15, c16, c17, c18⟩ := hpp.2.2 i hi (by omega)
    obtain ⟨q1, q2, q3, q4, q5, q6⟩ := h.mh _ c11.1 c11.2
    have go : ∀ S' T' : Sg, Rw S' T' r w → FrF r w S T S' T' → ∃ S2 T2 : Sg, zf_A_fret_205 r (zf_A_fret_29 r n) L x4 x5 i S' = some (0, S2) ∧ zf_W_grumble_144 w (zf_W_grumble_14 w n2) x4 x5 i T' = some (0, T2) ∧ Rw S2 T2 r w ∧ FrF r w S T S2 T2 := by
      intro S' T' h' a
      have ek : ∀ m, isCh S' r m = isCh S r m := fun m => by
        funext p
        unfold isCh knd
        rw [a.1 0 r 9 (by omega), a.1 0 r 11 (by omega), a.1 0 r 12 (by omega), a.1 0 r 7 (by omega), a.1 0 r 10 (by omega), a.1 0 r 0 (by omega)]
      have eo : ∀ m, isOl S' r m = isOl S r m := fun m => by
        funext p
        unfold isOl knd
        rw [a.1 0 r 8 (by omega), a.1 0 r 11 (by omega), a.1 0 r 12 (by omega), a.1 0 r 7 (by omega), a.1 0 r 10 (by omega), a.1 0 r 0 (by omega)]
      obtain ⟨S2, T2, k1, k2, k3, k4⟩ := w_fret (L := L) (x4 := x4) (x5 := x5) hL c n n2 (i + 1) S' T' (by omega) (by omega) h40 (by rw [a.1 0 r 6 (by omega)]; exact hN) (by omega) (by omega) (by rw [a.2 5 w 34 (by omega)]; exact hLT) (fun m p q => by rw [a.1 3 0 19 (by omega), ek]; exact h19 m p q) (fun m p q => by rw [a.1 3 0 20 (by omega), eo]; exact h20 m p q) h'
      refine ⟨S2, T2, ?_, ?_, k3, fun g r' k q => (k4.1 g r' k q).trans (a.1 g r' k q), fun g r' k q => (k4.2 g r' k q).trans (a.2 g r' k q)⟩
      · unfold zf_A_fret_205
        rw [zlt_v, zw_in (by omega) (by omega)]
        exact k1
      · unfold zf_W_grumble_144
        rw [zlt_v, zw_in (by omega) (by omega)]
        exact k2
    rw [zf_A_fret_29, if_neg (show ¬ S 0 r 6 0 ≤ i by omega), zck_b hx, zf_W_grumble_14, if_neg (show ¬ T 5 w 0 1 ≤ i by omega), pf_W_here hx, zbd_s, c5]
    by_cases s0 : S 0 r 11 i = 0
    · rw [if_pos s0, if_pos s0, if_neg n10, zck_b hx, c2, zck_b c11, c9, q3, hLT]
      have eM : zf_W_isMother w i T = some (if hasK (isCh S r i) 0 N.toNat = true then 1 else 0, T) := w_isMother h hi N.toNat 4096 0 (by decide) (by omega) (by omega)
      have eO : zf_W_oldIn w (T 5 w 2 i) T = some (if hasK (isOl S r (S 0 r 8 i)) 0 N.toNat = true then 1 else 0, T) := by
        rw [c2]
        exact w_oldIn h N.toNat 4096 0 (by decide) (by omega) (by omega)
      have e19 := h19 i hi hx.2
      have e20 := h20 _ c11.1 c11.2
      have hd7 : 0 ≤ T 5 w 7 i ∧ T 5 w 7 i ≤ 99 := by rw [c7]; exact c16
      obtain ⟨mo, hmo⟩ : ∃ mo : Int, (if hasK (isCh S r i) 0 N.toNat = true then (1 : Int) else 0) = mo := ⟨_, rfl⟩
      obtain ⟨ol, hol⟩ : ∃ ol : Int, (if hasK (isOl S r (S 0 r 8 i)) 0 N.toNat = true then (1 : Int) else 0) = ol := ⟨_, rfl⟩
      have mo1 : mo = 0 ∨ mo = 1 := by rw [← hmo]; split <;> decide
      have ol1 : ol = 0 ∨ ol = 1 := by rw [← hol]; split <;> decide
      rw [hmo] at eM e19
      rw [hol] at eO e20
      -- the class
      have eC : ∀ a : Int, 0 ≤ a ∧ a ≤ 2 → zf_A_fret_67 r (zf_A_fret_29 r n) L x4 x5 i a S = zf_A_fret_205 r (zf_A_fret_29 r n) L x4 x5 i (zu S 0 r 13 i (disc (S 0 r 13 i) (a + S 0 r 5 (S 0 r 8 i) + L + (if x4 = 0 then 2 * mo else 0) + (if x5 = 0 then ol else 0)))) := by
        intro a ha
        rw [c_f67 _ hx c16 c11 q6 ha, e19, e20]
        have x1 : (if L = 0 then (0 : Int) else 1) = L := by rcases hL with e | e <;> rw [e] <;> rfl
        have x2 : (if mo = 1 then (2 : Int) else 0) = 2 * mo := by rcases mo1 with e | e <;> rw [e] <;> rfl
        have x3 : (if ol = 1 then (1 : Int) else 0) = ol := by rcases ol1 with e | e <;> rw [e] <;> rfl
        rw [x1, x2, x3]
        generalize (if x4 = 0 then 2 * mo else 0) = A
        generalize (if x5 = 0 then ol else 0) = B
        rw [show a + S 0 r 5 (S 0 r 8 i) + A + B + L = a + S 0 r 5 (S 0 r 8 i) + L + A + B by omega]
      have eG : ∀ v : Int, 0 ≤ v ∧ v ≤ 4 → (if x4 = 0 then (zbd (zf_W_isMother w i T) fun a9 S10 => if a9 = 0 then (zf_W_grumble_80 w (zf_W_grumble_14 w n2) x4 x5 i v S10) else (zf_W_grumble_81 w (zf_W_grumble_14 w n2) x4 x5 i v 2 S10)) else (zf_W_grumble_80 w (zf_W_grumble_14 w n2) x4 x5 i v T)) = zf_W_grumble_144 w (zf_W_grumble_14 w n2) x4 x5 i (zu T 5 w 7 i (disc (S 0 r 13 i) (v + (if x4 = 0 then 2 * mo else 0) + (if x5 = 0 then ol else 0)))) := by
        intro v hv
        unfold zf_W_grumble_80
        by_cases z4 : x4 = 0
        · rw [if_pos z4, if_pos z4, eM, zbd_s]
          rcases mo1 with e | e
          · rw [if_pos e, m_f81 _ hx hd7 eO ol1 (by omega), c7, e]
            rfl
          · rw [if_neg (by omega), m_f81 _ hx hd7 eO ol1 (by omega), c7, e]
            rfl
        · rw [if_neg z4, if_neg z4, m_f81 _ hx hd7 eO ol1 (by omega), c7]
      rw [zw_in (x := 2 * S 0 r 15 i) (by omega) (by omega), zw_in (x := 2 * S 0 r 15 i + S 0 r 5 (S 0 r 8 i)) (by omega) (by omega), zw_in (x := 2 * S 0 r 15 i + S 0 r 5 (S 0 r 8 i) + L) (by omega) (by omega), zlt_v, eG _ (by omega)]
      have last : ∀ a : Int, a = 2 * S 0 r 15 i → ∃ S2 T2 : Sg, zf_A_fret_67 r (zf_A_fret_29 r n) L x4 x5 i a S = some (0, S2) ∧ zf_W_grumble_144 w (zf_W_grumble_14 w n2) x4 x5 i (zu T 5 w 7 i (disc (S 0 r 13 i) (2 * S 0 r 15 i + S 0 r 5 (S 0 r 8 i) + L + (if x4 = 0 then 2 * mo else 0) + (if x5 = 0 then ol else 0)))) = some (0, T2) ∧ Rw S2 T2 r w ∧ FrF r w S T S2 T2 := by
        intro a ha
        rw [eC a (by omega), ha]
        exact go _ _ (h.fret (disc_in _ _)) ⟨fun g r' k q => zu_ne q, fun g r' k q => zu_ne q⟩
      by_cases e15 : S 0 r 15 i = 1
      · rw [if_pos e15]
        exact last 2 (by omega)
      · rw [if_neg e15]
        exact last 0 (by omega)
    · rw [if_neg s0, if_neg s0, if_pos z00]
      exact go S T h ⟨fun _ _ _ _ => rfl, fun _ _ _ _ => rfl⟩
theorem tw_fret {S T : Sg} {r w L : Int} (h : Rw S T r w) (hc : Cru S T w (S 0 r 26 0)) (hL : L = 0 ∨ L = 1) (hLT : T 5 w 34 1 = L) : ∃ S2 T2 : Sg, zf_A_fret r L S = some (0, S2) ∧ zf_W_grumble w T = some (0, T2) ∧ Rw S2 T2 r w ∧ AG r S S2 ∧ BG w T T2 ∧ S2 3 0 15 = S 3 0 15 := by
  have hpp := h.1.2.2.1
  have hn40 := hpp.2.1
  have hn8 := h.1.2.2.2.1.2.1
  have hwr := h.mc.2.2.2.2.2.2.1
  obtain ⟨v1, a1, a2⟩ := w_anyFilled (k := 1) h hc rfl hn8.2 (S 0 r 26 0).toNat 4096 4096 0 (by decide) (by omega) (by omega) (by omega)
  obtain ⟨v2, b1, b2'⟩ := w_anyFilled (k := 2) h hc rfl hn8.2 (S 0 r 26 0).toNat 4096 4096 0 (by decide) (by omega) (by omega) (by omega)
  obtain ⟨S1, k1, k2, k3, k4⟩ := c_cares (S := S) (r := r) hn40.2 hwr (fun i p q => by
    obtain ⟨c1, c2, c3, c4, c5, c6, c7, c8, c9, c10, c11, c12, -⟩ := hpp.2.2 i p q
    exact ⟨by omega, c11, c12⟩) (S 0 r 6 0).toNat 4096 0 (zfl (zfl S 3 0 19 0 40 0) 3 0 20 0 12 0) (by decide) (by omega) (by omega) (by funext r' k; rw [zfl_ne (by omega), zfl_ne (by omega)])
  have fr : ∀ (g : Nat) (r' k : Int), ¬ (g = 3 ∧ r' = 0 ∧ (k = 19 ∨ k = 20)) → S1 g r' k = S g r' k := fun g r' k q => by rw [k2 g r' k q, zfl_ne (by omega), zfl_ne (by omega)]
  have h1 : Rw S1 T r w := h.scr (fun g r' k q => fr g r' k (by omega)) (fun _ _ _ _ _ => rfl)
  have ek : ∀ m, isCh S1 r m = isCh S r m := fun m => by
    funext p
    unfold isCh knd
    rw [fr 0 r 9 (by omega), fr 0 r 11 (by omega), fr 0 r 12 (by omega), fr 0 r 7 (by omega), fr 0 r 10 (by omega), fr 0 r 0 (by omega)]
  have eo : ∀ m, isOl S1 r m = isOl S r m := fun m => by
    funext p
    unfold isOl knd
    rw [fr 0 r 8 (by omega), fr 0 r 11 (by omega), fr 0 r 12 (by omega), fr 0 r 7 (by omega), fr 0 r 10 (by omega), fr 0 r 0 (by omega)]
  obtain ⟨S2, T2, l1, l2, l3, l4⟩ := w_fret (x4 := v1) (x5 := v2) (N := S 0 r 6 0) hL (S 0 r 6 0).toNat 4096 4096 0 S1 T (by decide) (by omega) hn40.2 (by rw [fr 0 r 6 (by omega)]) (by omega) (by omega) hLT (fun m p q => by
    rw [k3 m p, ek, zfl_ne (by omega), show zfl S 3 0 19 0 40 0 3 0 19 m = 0 from if_pos ⟨rfl, rfl, rfl, by omega, by omega⟩]) (fun d p q => by
    rw [k4 d, eo, show zfl (zfl S 3 0 19 0 40 0) 3 0 20 0 12 0 3 0 20 d = 0 from if_pos ⟨rfl, rfl, rfl, by omega, by omega⟩]) h1
  refine ⟨S2, T2, ?_, ?_, l3, ⟨fun g r' k q => ?_, ?_, ?_⟩, fun g r' k j q => ?_, ?_⟩
  · unfold zf_A_fret zf_A_isFilled zf_A_noteCares
    have k1' : zf_A_noteCares_18 r 4096 0 (zfl (zfl S 3 0 19 0 ((40 : Nat) : Int) 0) 3 0 20 0 ((12 : Nat) : Int) 0) = some (0, S1) := k1
    rw [a1, zbd_s, b1, zbd_s, pf_fill (by decide), zbd_s, pf_fill (by decide), zbd_s, k1', zbd_s]
    exact l1
  · unfold zf_W_grumble zf_W_anyFilled
    rw [a2, zbd_s, b2', zbd_s]
    exact l2
  · rw [l4.1 g r' k (fun e => q (by unfold AK; omega)), fr g r' k (fun e => q (by unfold AK; omega))]
  · rw [l4.1 0 r 0 (by omega), fr 0 r 0 (by omega)]
  · rw [l4.1 0 r 0 (by omega), fr 0 r 0 (by omega)]
  · rw [l4.2 g r' k (fun e => q (by unfold BK; omega))]
  · rw [l4.1 3 0 15 (by omega), fr 3 0 15 (by omega)]
