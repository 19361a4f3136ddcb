/-! ===== posts are filled: both sides alike ===== -/
theorem mks_none {s : Nat → Bool} {n : Nat} (h : ∀ k, k < n → s k = false) : mks n s = 0 := by
  rw [mks_up (P := 0) (Nat.zero_le _) (fun k _ b => h k b)]
  rfl
/-- the reference notes who fits -/
theorem w_fits_in {S T0 : Sg} {r w : Int} {m i : Nat} {who : Nat → Nat} (K : Int → Sg → Option (Int × Sg)) (hw : ∀ j, j < m → (who j : Int) < S 0 r 6 0) (hi : (i : Int) < S 0 r 26 0) (hi8 : i < 8) (hm : m ≤ 40) : ∀ (c k n : Nat) (T : Sg), k + c = min m 31 → c < n → Ri S T r w → T 5 w 0 52 = (m : Int) → (∀ j : Nat, j < m → T 5 w 36 (j : Int) = (who j : Int)) → T 5 w 38 (i : Int) = ((mks k (fun j => ((S 0 r 10 (who j : Int)).toNat).testBit ((S 0 r 27 (i : Int)).toNat)) : Nat) : Int) → ∃ T2, zf_W_findFits_19 w K n (i : Int) (k : Int) T = K ((i + 1 : Nat) : Int) T2 ∧ (∀ (g : Nat) (r' k j : Int), ¬ (g = 5 ∧ r' = w ∧ k = 38 ∧ j = i) → T2 g r' k j = T g r' k j) ∧ T2 5 w 38 (i : Int) = ((mks (min m 31) (fun j => ((S 0 r 10 (who j : Int)).toNat).testBit ((S 0 r 27 (i : Int)).toNat)) : Nat) : Int)
  | _, _, 0, _, _, hn, _, _, _, _ => absurd hn (Nat.not_lt_zero _)
  | 0, k, n + 1, T, hk, hn, hR, h52, h36, h38 => by
    rw [zf_W_findFits_19, h52]
    unfold zf_W_findFits_69
    rw [zlt_v, zw1 (show i < 100000 by omega)]
    refine ⟨T, ?_, fun _ _ _ _ _ => rfl, by rw [show min m 31 = k by omega]; exact h38⟩
    by_cases e : (m : Int) ≤ (k : Int)
    · rw [if_pos e]
    · rw [if_neg e, if_pos (by omega)]
  | c + 1, k, n + 1, T, hk, hn, hR, h52, h36, h38 => by
    have hkm : k < m := by omega
    have hml := mks_lt (fun j => ((S 0 r 10 (who j : Int)).toNat).testBit ((S 0 r 27 (i : Int)).toNat)) k
    have p31 : 2 ^ k < 2 ^ 31 := Nat.pow_lt_pow_right (by decide) (by omega)
    rw [zf_W_findFits_19, h52, if_neg (by omega), if_neg (by omega), zck_b (by omega), zck_b (by omega), h36 k hkm, pf_W_fits hR (hw k hkm) hi, zbd_s, h38]
    unfold zf_W_findFits_61
    simp only [zlt_v]
    rw [zw1 (show k < 100000 by omega)]
    have key : ∀ y : Int, y = ((mks (k + 1) (fun j => ((S 0 r 10 (who j : Int)).toNat).testBit ((S 0 r 27 (i : Int)).toNat)) : Nat) : Int) → ∃ T2, zf_W_findFits_19 w K n (i : Int) ((k + 1 : Nat) : Int) (zu T 5 w 38 (i : Int) y) = K ((i + 1 : Nat) : Int) T2 ∧ (∀ (g : Nat) (r' k j : Int), ¬ (g = 5 ∧ r' = w ∧ k = 38 ∧ j = i) → T2 g r' k j = T g r' k j) ∧ T2 5 w 38 (i : Int) = ((mks (min m 31) (fun j => ((S 0 r 10 (who j : Int)).toNat).testBit ((S 0 r 27 (i : Int)).toNat)) : Nat) : Int) := by
      intro y hy
      have wT : WFr w T (zu T 5 w 38 (i : Int) y) := fun g r' k j a _ => if_neg (by omega)
      have hb : Bk S S r r := Bk.eq rfl rfl rfl
      obtain ⟨T2, k1, k2, k3⟩ := w_fits_in (T0 := T0) K hw hi hi8 hm c (k + 1) n (zu T 5 w 38 (i : Int) y) (by omega) (by omega) (hR.like hb wT.wk) (by rw [zu_ne (by omega)]; exact h52) (fun j hj => by rw [zu_ne (by omega)]; exact h36 j hj) (by rw [zu_at]; exact hy)
      exact ⟨T2, k1, fun g r' k j z => (k2 g r' k j z).trans (if_neg z), k3⟩
    cases hb : ((S 0 r 10 (who k : Int)).toNat).testBit ((S 0 r 27 (i : Int)).toNat) with
    | true =>
      rw [if_pos (show true = true from rfl), if_neg n10, zck_b (by omega)]
      refine key _ ?_
      rw [shl1 k (by omega), zor_n (by omega) (by omega), mks_or, hb]
      rfl
    | false =>
      rw [if_neg (show ¬ (false = true) by decide), if_pos z00, zck_b (by omega)]
      refine key _ ?_
      rw [zor_0 (by omega), mks_or, hb]
      simp
theorem w_fits_out {S T0 : Sg} {r w : Int} {m : Nat} {who : Nat → Nat} (hw : ∀ j, j < m → (who j : Int) < S 0 r 6 0) (hm : m ≤ 40) : ∀ (c i n : Nat) (T : Sg), (i : Int) + c = S 0 r 26 0 → c < n → Ri S T r w → T 5 w 0 52 = (m : Int) → (∀ j : Nat, j < m → T 5 w 36 (j : Int) = (who j : Int)) → (∀ q : Nat, q < i → T 5 w 38 (q : Int) = ((mks (min m 31) (fun j => ((S 0 r 10 (who j : Int)).toNat).testBit ((S 0 r 27 (q : Int)).toNat)) : Nat) : Int)) → ∃ T2, zf_W_findFits_2 w n (i : Int) T = some (0, T2) ∧ (∀ (g : Nat) (r' k : Int), ¬ (g = 5 ∧ r' = w ∧ k = 38) → T2 g r' k = T g r' k) ∧ (∀ q : Nat, (q : Int) < S 0 r 26 0 → T2 5 w 38 (q : Int) = ((mks (min m 31) (fun j => ((S 0 r 10 (who j : Int)).toNat).testBit ((S 0 r 27 (q : Int)).toNat)) : Nat) : Int))
  | _, _, 0, _, _, hn, _, _, _, _ => absurd hn (Nat.not_lt_zero _)
  | 0, i, n + 1, T, hi, hn, hR, h52, h36, h38 => by
    rw [zf_W_findFits_2, if_pos (by rw [hR.2.2.2.1.1]; omega)]
    exact ⟨T, rfl, fun _ _ _ _ => rfl, fun q hq => h38 q (by omega)⟩
  | c + 1, i, n + 1, T, hi, hn, hR, h52, h36, h38 => by
    have h8 := hR.2.2.2.1.2.1
    rw [zf_W_findFits_2, if_neg (by rw [hR.2.2.2.1.1]; omega), zck_b (by omega), zlt_v]
    have wT : WFr w T (zu T 5 w 38 (i : Int) 0) := fun g r' k j a _ => if_neg (by omega)
    have hb : Bk S S r r := Bk.eq rfl rfl rfl
    obtain ⟨T1, k1, k2, k3⟩ := w_fits_in (T0 := T0) (i := i) (zf_W_findFits_2 w n) hw (by omega) (by omega) hm (min m 31) 0 4096 (zu T 5 w 38 (i : Int) 0) (by omega) (by omega) (hR.like hb wT.wk) (by rw [zu_ne (by omega)]; exact h52) (fun j hj => by rw [zu_ne (by omega)]; exact h36 j hj) (zu_at ..)
    rw [show ((0 : Nat) : Int) = 0 from rfl] at k1
    rw [k1]
    have k2' : ∀ (g : Nat) (r' k j : Int), ¬ (g = 5 ∧ r' = w ∧ k = 38 ∧ j = i) → T1 g r' k j = T g r' k j := fun g r' k j z => (k2 g r' k j z).trans (if_neg z)
    have wT1 : WFr w T T1 := fun g r' k j a _ => k2' g r' k j (by omega)
    obtain ⟨T2, m1, m2, m3⟩ := w_fits_out (T0 := T0) (r := r) hw hm c (i + 1) n T1 (by omega) (by omega) (hR.like hb wT1.wk) (by rw [k2' 5 w 0 52 (by omega)]; exact h52) (fun j hj => by rw [k2' 5 w 36 _ (by omega)]; exact h36 j hj) (fun q hq => by
      by_cases e : q = i
      · subst e; exact k3
      · rw [k2' 5 w 38 _ (by omega)]; exact h38 q (by omega))
    refine ⟨T2, m1, fun g r' k z => ?_, m3⟩
    rw [m2 g r' k z]
    funext j
    exact k2' g r' k j (by omega)
/-- the reference empties all crews first -/
theorem w_empty {w : Int} : ∀ (c p n : Nat) (T : Sg), p + c = 8 → c < n → (∀ q : Nat, q < p → T 21 w 0 (q : Int) = 0 ∧ T 5 w 37 (q : Int) = 0) → ∃ T2, zf_W_fill_6 w n (p : Int) T = (if 9 < T2 5 w 0 52 then (zbd (zf_W_oneByOne w T2) fun _ S4 => zf_W_fill_52 w S4) else (zbd (zf_W_byAll w T2) fun _ S6 => zf_W_fill_52 w S6)) ∧ WB w T T2 ∧ (∀ q : Nat, q < 8 → T2 21 w 0 (q : Int) = 0 ∧ T2 5 w 37 (q : Int) = 0)
  | _, _, 0, _, _, hn, _ => absurd hn (Nat.not_lt_zero _)
  | 0, p, n + 1, T, hp, hn, h => by
    rw [zf_W_fill_6, if_pos (by omega)]
    exact ⟨T, rfl, fun _ _ _ _ _ => rfl, fun q hq => h q (by omega)⟩
  | c + 1, p, n + 1, T, hp, hn, h => by
    rw [zf_W_fill_6, if_neg (by omega), zck_b (by omega), zlt_v, zlt_v, zlt_v, zw1 (by omega)]
    obtain ⟨T2, k1, k2, k3⟩ := w_empty (w := w) c (p + 1) n (zu (zu T 21 w 0 (p : Int) 0) 5 w 37 (p : Int) 0) (by omega) (by omega) (fun q hq => by
      by_cases e : q = p
      · subst e
        exact ⟨by rw [zu_ne (by omega), zu_at], zu_at ..⟩
      · rw [zu_ne (by omega), zu_pl (by omega), zu_pl (by omega), zu_ne (by omega)]
        exact h q (by omega))
    exact ⟨T2, k1, fun g r k a b => by rw [k2 g r k a b, zu_ne b, zu_ne a], k3⟩
/-- how many are filled -/
def nfl (crew : Nat → Nat) (n : Nat) : Nat := cnt n (fun i => decide (crew i ≠ 0))
theorem w_count {crew : Nat → Nat} {w : Int} {T : Sg} {nP : Nat} (h25 : T 5 w 0 25 = (nP : Int)) (h8 : nP ≤ 8) (h37 : ∀ q : Nat, q < 8 → T 5 w 37 (q : Int) = (if crew q = 0 then 0 else 1)) : ∀ (c p n : Nat), p + c = nP → c < n → zf_W_fill_56 w n ((nfl crew p : Nat) : Int) (p : Int) T = some (((nfl crew nP : Nat) : Int), T)
  | _, _, 0, _, hn => absurd hn (Nat.not_lt_zero _)
  | 0, p, n + 1, hp, hn => by
    have e : p = nP := by omega
    subst e
    rw [zf_W_fill_56, if_pos (by omega)]
  | c + 1, p, n + 1, hp, hn => by
    have ih := w_count h25 h8 h37 c (p + 1) n (by omega) (by omega)
    have hle := cnt_le p (fun i => decide (crew i ≠ 0))
    rw [zf_W_fill_56, if_neg (by omega), zck_b (by omega), h37 p (by omega)]
    unfold zf_W_fill_79
    have e2 : nfl crew (p + 1) = nfl crew p + (decide (crew p ≠ 0)).toNat := rfl
    unfold nfl at hle
    have hle2 : nfl crew p ≤ p := hle
    simp only [zlt_v]
    rw [zw1 (show p < 100000 by omega), zw1 (show nfl crew p < 100000 by omega), zw_in (x := ((nfl crew p : Nat) : Int) + 0) (by omega) (by omega), Int.add_zero]
    by_cases z : crew p = 0
    · rw [if_pos z, if_pos z00]
      rw [decide_eq_false (by omega)] at e2
      rw [e2] at ih
      exact ih
    · rw [if_neg z, if_neg n10]
      rw [decide_eq_true z] at e2
      rw [e2] at ih
      exact ih
/-- the class: whether all is as before -/
theorem c_asBefore {S : Sg} : ∀ (c i n : Nat), i + c = 8 → c < n → ∃ v, zf_C_asBefore_2 n (i : Int) S = some (v, S) ∧ (v = 1 ∧ (∀ q : Nat, i ≤ q → q < 8 → S 20 0 1 (q : Int) = S 20 0 2 (q : Int) ∧ S 3 0 11 (q : Int) = S 3 0 12 (q : Int)) ∨ v = 0)
  | _, _, 0, _, hn => absurd hn (Nat.not_lt_zero _)
  | 0, i, n + 1, hi, hn => by
    rw [zf_C_asBefore_2, if_pos (by omega)]
    exact ⟨1, rfl, Or.inl ⟨rfl, fun q a b => by omega⟩⟩
  | c + 1, i, n + 1, hi, hn => by
    rw [zf_C_asBefore_2, if_neg (by omega), zck_b (by omega)]
    by_cases e1 : zcmp (S 20 0 1 (i : Int)) (S 20 0 2 (i : Int)) = 0
    · rw [if_pos e1]
      rw [zcmp_0] at e1
      by_cases e2 : S 3 0 11 (i : Int) = S 3 0 12 (i : Int)
      · rw [if_pos e2, zlt_v, zw1 (by omega)]
        obtain ⟨v, k1, k2⟩ := c_asBefore c (i + 1) n (by omega) (by omega)
        refine ⟨v, k1, ?_⟩
        rcases k2 with ⟨a, b⟩ | a
        · refine Or.inl ⟨a, fun q x y => ?_⟩
          by_cases z : q = i
          · subst z; exact ⟨e1, e2⟩
          · exact b q (by omega) y
        · exact Or.inr a
      · rw [if_neg e2]
        exact ⟨0, rfl, Or.inr rfl⟩
    · rw [if_neg e1]
      exact ⟨0, rfl, Or.inr rfl⟩
/-- the class notes what it found -/
theorem c_note {crew : Nat → Nat} {r : Int} : ∀ (c i n : Nat) (S : Sg), i + c = 8 → c < n → (∀ q : Nat, q < 8 → S 20 0 0 (q : Int) = (crew q : Int)) → S 3 0 10 5 = ((nfl crew i : Nat) : Int) → (∀ q : Nat, q < i → S 20 0 2 (q : Int) = S 20 0 1 (q : Int) ∧ S 3 0 12 (q : Int) = S 3 0 11 (q : Int)) → ∃ S2, zf_C_fill_48 r n (i : Int) S = some (((nfl crew 8 : Nat) : Int), S2) ∧ (∀ (g : Nat) (r k : Int), ¬ (g = 20 ∧ r = 0 ∧ k = 2) → ¬ (g = 3 ∧ r = 0 ∧ (k = 12 ∨ k = 10)) → S2 g r k = S g r k) ∧ S2 3 0 10 5 = ((nfl crew 8 : Nat) : Int) ∧ (∀ q : Nat, q < 8 → S2 20 0 2 (q : Int) = S 20 0 1 (q : Int) ∧ S2 3 0 12 (q : Int) = S 3 0 11 (q : Int))
  | _, _, 0, _, _, hn, _, _, _ => absurd hn (Nat.not_lt_zero _)
  | 0, i, n + 1, S, hi, hn, hc, h5, hb => by
    have e : i = 8 := by omega
    subst e
    rw [zf_C_fill_48, if_pos (by omega), h5]
    exact ⟨S, rfl, fun _ _ _ _ _ => rfl, h5, fun q hq => hb q hq⟩
  | c + 1, i, n + 1, S, hi, hn, hc, h5, hb => by
    have hle : nfl crew i ≤ i := cnt_le i (fun i => decide (crew i ≠ 0))
    rw [zf_C_fill_48, if_neg (by omega), zck_b (by omega), zlt_v, zlt_v]
    unfold zf_C_fill_105
    generalize hU : zu (zu S 20 0 2 (i : Int) (S 20 0 1 (i : Int))) 3 0 12 (i : Int) (zu S 20 0 2 (i : Int) (S 20 0 1 (i : Int)) 3 0 11 (i : Int)) = U
    have fU : ∀ (g : Nat) (r k : Int), ¬ (g = 20 ∧ r = 0 ∧ k = 2) → ¬ (g = 3 ∧ r = 0 ∧ k = 12) → U g r k = S g r k := fun g r k a b => by
      rw [← hU, zu_ne b, zu_ne a]
    have u1 : ∀ q : Nat, q < i + 1 → U 20 0 2 (q : Int) = S 20 0 1 (q : Int) ∧ U 3 0 12 (q : Int) = S 3 0 11 (q : Int) := by
      intro q hq
      rw [← hU]
      by_cases e : q = i
      · subst e
        refine ⟨by rw [zu_ne (by omega), zu_at], ?_⟩
        rw [zu_at, zu_ne (by omega)]
      · rw [zu_ne (by omega), zu_pl (by omega), zu_pl (by omega), zu_ne (by omega)]
        exact hb q (by omega)
    clear hU
    have e2 : nfl crew (i + 1) = nfl crew i + (decide (crew i ≠ 0)).toNat := rfl
    have go : ∀ V : Sg, (∀ (g : Nat) (r k : Int), ¬ (g = 3 ∧ r = 0 ∧ k = 10) → V g r k = U g r k) → V 3 0 10 5 = ((nfl crew (i + 1) : Nat) : Int) → ∃ S2, (zlt (zw ((i : Int) + 1)) fun v1 => zf_C_fill_48 r n v1 V) = some (((nfl crew 8 : Nat) : Int), S2) ∧ (∀ (g : Nat) (r k : Int), ¬ (g = 20 ∧ r = 0 ∧ k = 2) → ¬ (g = 3 ∧ r = 0 ∧ (k = 12 ∨ k = 10)) → S2 g r k = S g r k) ∧ S2 3 0 10 5 = ((nfl crew 8 : Nat) : Int) ∧ (∀ q : Nat, q < 8 → S2 20 0 2 (q : Int) = S 20 0 1 (q : Int) ∧ S2 3 0 12 (q : Int) = S 3 0 11 (q : Int)) := by
      intro V fV v5
      rw [zlt_v, zw1 (by omega)]
      obtain ⟨S2, k1, k2, k3, k4⟩ := c_note (r := r) c (i + 1) n V (by omega) (by omega) (fun q hq => by rw [fV 20 0 0 (by omega), fU 20 0 0 (by omega) (by omega)]; exact hc q hq) v5 (fun q hq => by
        rw [fV 20 0 2 (by omega), fV 3 0 12 (by omega), fV 20 0 1 (by omega), fV 3 0 11 (by omega), fU 20 0 1 (by omega) (by omega), fU 3 0 11 (by omega) (by omega)]
        exact u1 q hq)
      refine ⟨S2, k1, fun g r k a b => ?_, k3, fun q hq => ?_⟩
      · rw [k2 g r k a b, fV g r k (by omega), fU g r k a (by omega)]
      · rw [(k4 q hq).1, (k4 q hq).2, fV 20 0 1 (by omega), fV 3 0 11 (by omega), fU 20 0 1 (by omega) (by omega), fU 3 0 11 (by omega) (by omega)]
        exact ⟨rfl, rfl⟩
    have u5 : U 3 0 10 5 = ((nfl crew i : Nat) : Int) := by rw [fU 3 0 10 (by omega) (by omega)]; exact h5
    have uc : U 20 0 0 (i : Int) = (crew i : Int) := by rw [fU 20 0 0 (by omega) (by omega)]; exact hc i (by omega)
    rw [uc]
    by_cases z : crew i = 0
    · rw [decide_eq_false (by omega)] at e2
      rw [z, if_pos (by rw [zcmp_0]; rfl)]
      exact go U (fun _ _ _ _ => rfl) (by rw [u5, e2, Bool.toNat_false, Nat.add_zero])
    · rw [decide_eq_true z] at e2
      rw [if_neg (by rw [zcmp_0]; omega), zlt_v, u5, zw1 (show nfl crew i < 100000 by omega)]
      exact go _ (fun g r k a => zu_ne (by omega)) (by rw [zu_at, e2, Bool.toNat_true])
/-- the crews that were found last, and for what -/
def Rcr (S : Sg) : Prop := ∃ can hN crew : Nat → Nat, (∀ i : Nat, i < 8 → S 20 0 2 (i : Int) = (can i : Int) ∧ S 3 0 12 (i : Int) = (hN i : Int) ∧ S 20 0 0 (i : Int) = (crew i : Int) ∧ crew i < 1099511627776) ∧ (∀ i, 8 ≤ i → can i = 0 ∧ hN i = 0) ∧ Crs can hN crew ∧ S 3 0 10 5 = ((nfl crew 8 : Nat) : Int)
