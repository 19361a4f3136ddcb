/-! ===== a week: who is served first ===== -/
def gvn (f d : Int → Int) (x i : Int) : Int := if f i = 1 then min x (d i) else 0
def lfn (f d : Int → Int) (x i : Int) : Nat → Int
  | 0 => x
  | c + 1 => lfn f d (x - gvn f d x i) (i + 1) c
def Gtn (f d : Int → Int) (x i : Int) : Nat → (Int → Int) → Prop
  | 0, _ => True
  | c + 1, G => G i = gvn f d x i ∧ Gtn f d (x - gvn f d x i) (i + 1) c G
theorem Gtn.uniq {f d G G' : Int → Int} : ∀ {c : Nat} {x i : Int}, Gtn f d x i c G → Gtn f d x i c G' → ∀ j, i ≤ j → j < i + c → G j = G' j
  | 0, _, _, _, _ => fun j a b => absurd b (by omega)
  | c + 1, x, i, h, h' => fun j a b => by
    by_cases e : j = i
    · rw [e, h.1, h'.1]
    · exact Gtn.uniq h.2 h'.2 j (by omega) (by omega)
/-- those who share what is left -/
def oth (S : Sg) (r : Int) (f : Int → Int) : Int → Int := fun j => if S 0 r 11 j = 0 ∧ f j = 0 then 1 else 0
theorem oth_in (S : Sg) (r : Int) (f : Int → Int) (j : Int) : 0 ≤ oth S r f j ∧ oth S r f j ≤ 1 := by
  unfold oth
  split <;> decide
/-- after the first round of the class -/
def Shr (r x k : Int) (S : Sg) : Option (Int × Sg) := if k = 0 then zf_A_shareOut_161 r x 0 S else (zck (¬ k = 0) <| zf_A_shareOut_161 r x (zdiv x k) S)
theorem w_first {S T : Sg} {r w : Int} (h : Rw S T r w) : ∀ (c n n2 : Nat) (i x k : Int) (A B : Sg), 0 ≤ i → i + c = S 0 r 6 0 → c < n → c < n2 → (0 ≤ k ∧ k ≤ i) → (0 ≤ x ∧ x ≤ 9999) → CE S A → EF w T B → ∃ (S2 T2 : Sg) (x' k' : Int), zf_A_shareOut_21 r n x k i A = Shr r x' k' S2 ∧ zf_W_eat_97 w n2 k i B = zf_W_eat_174 w 4096 k' (T2 5 w 25 0) 0 T2 ∧ CE S S2 ∧ EF w T T2 ∧ (∀ j, j < i → S2 3 0 16 j = A 3 0 16 j ∧ S2 3 0 17 j = A 3 0 17 j ∧ T2 5 w 40 j = B 5 w 40 j) ∧ T2 5 w 39 = B 5 w 39 ∧ T2 5 w 9 = B 5 w 9 ∧ T2 5 w 34 = B 5 w 34 ∧ (∀ j, i ≤ j → j < S 0 r 6 0 → T2 5 w 40 j = S2 3 0 16 j ∧ (S2 3 0 16 j = 0 ∨ S2 3 0 16 j = 1) ∧ (S 0 r 11 j ≠ 0 → S2 3 0 16 j = 0)) ∧ Gtn (S2 3 0 16) (nds S r) x i c (S2 3 0 17) ∧ x' = lfn (S2 3 0 16) (nds S r) x i c ∧ (0 ≤ x' ∧ x' ≤ x) ∧ k' = k + sF (oth S r (S2 3 0 16)) i c
  | 0, n + 1, n2 + 1, i, x, k, A, B, hi, hc, _, _, hk, hx, hA, hB => by
    have hn1 := h.1.2.2.1.1
    rw [zf_A_shareOut_21, hA.g0, if_pos (show S 0 r 6 0 ≤ i by omega), zf_W_eat_97, if_pos (show B 5 w 0 1 ≤ i by rw [hB 5 w 0 1 (by omega)]; omega), zlt_v]
    exact ⟨A, B, x, k, rfl, rfl, hA, hB, fun j _ => ⟨rfl, rfl, rfl⟩, rfl, rfl, rfl, fun j a b => absurd b (by omega), trivial, rfl, ⟨hx.1, Int.le_refl _⟩, (Int.add_zero k).symm⟩
  | c + 1, n + 1, n2 + 1, i, x, k, A, B, hi, hc, h1, h2, hk, hx, hA, hB => by
    have hn1 := h.1.2.2.1.1
    have hn := h.1.2.2.1.2.1
    have hx4 : 0 ≤ i ∧ i < 40 := by omega
    have hp : 0 ≤ i ∧ i < S 0 r 6 0 := by omega
    have b := nds_in S r i
    have go : ∀ (A1 B1 : Sg) (fi gi ki : Int), CE S A1 → EF w T B1 → (fi = 0 ∨ fi = 1) → (S 0 r 11 i ≠ 0 → fi = 0) → gi = (if fi = 1 then min x (nds S r i) else 0) → ki = (if S 0 r 11 i = 0 ∧ fi = 0 then 1 else 0) → A1 3 0 16 i = fi → A1 3 0 17 i = gi → B1 5 w 40 i = fi → (∀ j, j ≠ i → A1 3 0 16 j = A 3 0 16 j ∧ A1 3 0 17 j = A 3 0 17 j ∧ B1 5 w 40 j = B 5 w 40 j) → B1 5 w 39 = B 5 w 39 → B1 5 w 9 = B 5 w 9 → B1 5 w 34 = B 5 w 34 → ∃ (S2 T2 : Sg) (x' k' : Int), zf_A_shareOut_142 r (zf_A_shareOut_21 r n) (x - gi) (k + ki) i A1 = Shr r x' k' S2 ∧ zf_W_eat_156 w (zf_W_eat_97 w n2) i k ki B1 = zf_W_eat_174 w 4096 k' (T2 5 w 25 0) 0 T2 ∧ CE S S2 ∧ EF w T T2 ∧ (∀ j, j < i → S2 3 0 16 j = A 3 0 16 j ∧ S2 3 0 17 j = A 3 0 17 j ∧ T2 5 w 40 j = B 5 w 40 j) ∧ T2 5 w 39 = B 5 w 39 ∧ T2 5 w 9 = B 5 w 9 ∧ T2 5 w 34 = B 5 w 34 ∧ (∀ j, i ≤ j → j < S 0 r 6 0 → T2 5 w 40 j = S2 3 0 16 j ∧ (S2 3 0 16 j = 0 ∨ S2 3 0 16 j = 1) ∧ (S 0 r 11 j ≠ 0 → S2 3 0 16 j = 0)) ∧ Gtn (S2 3 0 16) (nds S r) x i (c + 1) (S2 3 0 17) ∧ x' = lfn (S2 3 0 16) (nds S r) x i (c + 1) ∧ (0 ≤ x' ∧ x' ≤ x) ∧ k' = k + sF (oth S r (S2 3 0 16)) i (c + 1) := by
      intro A1 B1 fi gi ki cA cB hf hf0 hg hki a16 a17 b40 fr f39 f9 f34
      have hg2 : 0 ≤ gi ∧ gi ≤ x := by
        rw [hg]
        split <;> omega
      have hki2 : 0 ≤ ki ∧ ki ≤ 1 := by
        rw [hki]
        split <;> decide
      obtain ⟨S2, T2, x', k', k1, k2, k3, k4, k5, k6, k6b, k6c, k7, k8, k9, k10, k11⟩ := w_first h c n n2 (i + 1) (x - gi) (k + ki) A1 B1 (by omega) (by omega) (by omega) (by omega) (by omega) (by omega) cA cB
      have s16 : S2 3 0 16 i = fi := (k5 i (by omega)).1.trans a16
      have s17 : S2 3 0 17 i = gi := (k5 i (by omega)).2.1.trans a17
      have eg : gvn (S2 3 0 16) (nds S r) x i = gi := by
        unfold gvn
        rw [s16, hg]
      refine ⟨S2, T2, x', k', ?_, ?_, k3, k4, fun j q => ?_, k6.trans f39, k6b.trans f9, k6c.trans f34, fun j a b => ?_, ⟨by rw [s17, eg], by rw [eg]; exact k8⟩, ?_, ⟨k10.1, by omega⟩, ?_⟩
      · unfold zf_A_shareOut_142
        rw [zlt_v, zw_in (x := i + 1) (by omega) (by omega)]
        exact k1
      · unfold zf_W_eat_156
        rw [zlt_v, zlt_v, zw_in (x := i + 1) (by omega) (by omega), zw_in (x := k + ki) (by omega) (by omega)]
        exact k2
      · have q1 := k5 j (by omega)
        have q2 := fr j (by omega)
        exact ⟨q1.1.trans q2.1, q1.2.1.trans q2.2.1, q1.2.2.trans q2.2.2⟩
      · by_cases e : j = i
        · rw [e, (k5 i (by omega)).2.2, b40, s16]
          exact ⟨rfl, hf, hf0⟩
        · exact k7 j (by omega) b
      · show x' = lfn (S2 3 0 16) (nds S r) (x - gvn (S2 3 0 16) (nds S r) x i) (i + 1) c
        rw [eg]
        exact k9
      · show k' = k + (oth S r (S2 3 0 16) i + sF (oth S r (S2 3 0 16)) (i + 1) c)
        rw [k11, show oth S r (S2 3 0 16) i = ki by unfold oth; rw [s16, hki]]
        omega
    have e0 : A 0 = S 0 := hA.g0
    rw [zf_A_shareOut_21, e0, if_neg (show ¬ S 0 r 6 0 ≤ i by omega), zck_b hx4, zf_W_eat_97, if_neg (show ¬ B 5 w 0 1 ≤ i by rw [hB 5 w 0 1 (by omega)]; omega), e_here h hB hp, zbd_s]
    -- the class, one who isn't served first
    have cN : ∀ (A1 : Sg) (fl : Int), zf_A_shareOut_76 r (zf_A_shareOut_21 r n) x k i fl i A1 = (if fl = 0 then zf_A_shareOut_142 r (zf_A_shareOut_21 r n) (x - 0) (k + 0) i (zu (zu A1 3 0 16 i 0) 3 0 17 i 0) else zf_A_shareOut_142 r (zf_A_shareOut_21 r n) (x - 0) (k + 1) i (zu (zu A1 3 0 16 i 0) 3 0 17 i 0)) := by
      intro A1 fl
      unfold zf_A_shareOut_76 zf_A_shareOut_77 zf_A_shareOut_113
      rw [zck_b hx4, zlt_v, zck_b hx4, zu_at, if_neg (show ¬ (0 : Int) = 1 by decide), zck_b hx4, zlt_v, zck_b hx4, zu_at, zw_in (x := x - 0) (by omega) (by omega), zlt_v]
      by_cases e : fl = 0
      · rw [if_pos e, if_pos e, Int.add_zero]
      · rw [if_neg e, if_neg e, show zu (zu A1 3 0 16 i 0) 3 0 17 i 0 3 0 16 i = 0 by rw [zu_ne (by omega), zu_at], if_pos rfl, zlt_v, zw_in (x := k + 1) (by omega) (by omega)]
    have mN : ∀ B1 : Sg, EF w T B1 → zf_W_eat_131 w (zf_W_eat_97 w n2) k i i B1 = zf_W_eat_156 w (zf_W_eat_97 w n2) i k (if S 0 r 11 i = 0 then 1 else 0) (zu B1 5 w 40 i 0) := by
      intro B1 hB1
      unfold zf_W_eat_131 zf_W_eat_132 zf_W_eat_155
      rw [zck_b hx4, zlt_v, e_here h (hB1.trans (EF.put (by omega))) hp, zbd_s, zck_b hx4, zu_at]
      by_cases s0 : S 0 r 11 i = 0
      · rw [if_pos s0, if_neg n10, if_pos rfl]
      · rw [if_neg s0, if_pos z00]
    by_cases s0 : S 0 r 11 i = 0
    · rw [if_pos s0, if_pos s0, if_neg n10]
      unfold zf_A_shareOut_45
      rw [if_neg n10]
      obtain ⟨v, A1, B1, k1, k2, k3, k4, k5⟩ := pf_mayE (T := B) (p := i) 2 (hA.rw h) hB (show 0 ≤ i ∧ i < A 0 r 6 0 by rw [e0]; exact hp)
      have cA : CE A A1 := fun g r' k q => k4 g r' k (by omega)
      have cB : EF w B B1 := k5.ef
      rw [k1, zbd_s, k2, zbd_s]
      by_cases hv : v = 0
      · rw [if_pos hv, if_pos hv, cN, if_neg n10, mN B1 (hB.trans cB), if_pos s0]
        refine go _ _ 0 0 1 (((hA.trans cA).trans (CE.put (by omega))).trans (CE.put (by omega))) ((hB.trans cB).trans (EF.put (by omega))) (Or.inl rfl) (fun _ => rfl) rfl (if_pos ⟨s0, rfl⟩).symm ?_ ?_ ?_ (fun j q => ⟨?_, ?_, ?_⟩) ?_ ?_ ?_
        · rw [zu_ne (by omega), zu_at]
        · rw [zu_at]
        · rw [zu_at]
        · rw [zu_ne (by omega), zu_pl q, k4 3 0 16 (by omega)]
        · rw [zu_pl q, zu_ne (by omega), k4 3 0 17 (by omega)]
        · rw [zu_pl q, k5 5 w 40 j (by omega)]
        · rw [zu_ne (by omega)]; funext j; exact k5 5 w 39 j (by omega)
        · rw [zu_ne (by omega)]; funext j; exact k5 5 w 9 j (by omega)
        · rw [zu_ne (by omega)]; funext j; exact k5 5 w 34 j (by omega)
      · rw [if_neg hv, if_neg hv]
        have cY : zf_A_shareOut_77 r (zf_A_shareOut_21 r n) x k i 1 i 1 A1 = zf_A_shareOut_142 r (zf_A_shareOut_21 r n) (x - min x (nds S r i)) (k + 0) i (zu (zu A1 3 0 16 i 1) 3 0 17 i (min x (nds S r i))) := by
          unfold zf_A_shareOut_77 zf_A_shareOut_113
          rw [zck_b hx4, zlt_v, zck_b hx4, zu_at, if_pos rfl, e_needC h ((hA.trans cA).trans (CE.put (by omega))) hp, zbd_s, zck_b hx4, zlt_v, zck_b hx4, zu_at, zw_in (x := x - min x (nds S r i)) (by omega) (by omega), zlt_v, if_neg n10, show zu (zu A1 3 0 16 i 1) 3 0 17 i (min x (nds S r i)) 3 0 16 i = 1 by rw [zu_ne (by omega), zu_at], if_neg n10, Int.add_zero]
        have mY : zf_W_eat_132 w (zf_W_eat_97 w n2) k i i 1 B1 = zf_W_eat_156 w (zf_W_eat_97 w n2) i k 0 (zu B1 5 w 40 i 1) := by
          unfold zf_W_eat_132 zf_W_eat_155
          rw [zck_b hx4, zlt_v, e_here h ((hB.trans cB).trans (EF.put (by omega))) hp, zbd_s, if_pos s0, if_neg n10, zck_b hx4, zu_at, if_neg n10]
        rw [cY, mY]
        refine go _ _ 1 (min x (nds S r i)) 0 (((hA.trans cA).trans (CE.put (by omega))).trans (CE.put (by omega))) ((hB.trans cB).trans (EF.put (by omega))) (Or.inr rfl) (fun q => absurd s0 q) (if_pos rfl).symm (if_neg (fun q => n10 q.2)).symm ?_ ?_ ?_ (fun j q => ⟨?_, ?_, ?_⟩) ?_ ?_ ?_
        · rw [zu_ne (by omega), zu_at]
        · rw [zu_at]
        · rw [zu_at]
        · rw [zu_ne (by omega), zu_pl q, k4 3 0 16 (by omega)]
        · rw [zu_pl q, zu_ne (by omega), k4 3 0 17 (by omega)]
        · rw [zu_pl q, k5 5 w 40 j (by omega)]
        · rw [zu_ne (by omega)]; funext j; exact k5 5 w 39 j (by omega)
        · rw [zu_ne (by omega)]; funext j; exact k5 5 w 9 j (by omega)
        · rw [zu_ne (by omega)]; funext j; exact k5 5 w 34 j (by omega)
    · rw [if_neg s0, if_neg s0, if_pos z00]
      unfold zf_A_shareOut_45
      rw [if_pos z00, cN, if_pos rfl, mN B hB, if_neg s0]
      refine go _ _ 0 0 0 ((hA.trans (CE.put (by omega))).trans (CE.put (by omega))) (hB.trans (EF.put (by omega))) (Or.inl rfl) (fun _ => rfl) rfl (if_neg (fun q => s0 q.1)).symm ?_ ?_ ?_ (fun j q => ⟨?_, ?_, ?_⟩) ?_ ?_ ?_
      · rw [zu_ne (by omega), zu_at]
      · rw [zu_at]
      · rw [zu_at]
      · rw [zu_ne (by omega), zu_pl q]
      · rw [zu_pl q, zu_ne (by omega)]
      · rw [zu_pl q]
      · rw [zu_ne (by omega)]
      · rw [zu_ne (by omega)]
      · rw [zu_ne (by omega)]
