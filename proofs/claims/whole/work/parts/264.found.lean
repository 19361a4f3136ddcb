/-! ===== found: what is taken back, by the class's one pass and by the reference's recursion ===== -/
theorem sF_add {f g h : Int → Int} : ∀ (k : Nat) (i : Int), (∀ j, i ≤ j → j < i + k → h j = f j + g j) → sF h i k = sF f i k + sF g i k
  | 0, _, _ => rfl
  | k + 1, i, q => by
    show h i + sF h (i + 1) k = f i + sF f (i + 1) k + (g i + sF g (i + 1) k)
    rw [q i (by omega) (by omega), sF_add k (i + 1) (fun j a b => q j (by omega) (by omega))]
    omega
theorem sF_zero {f : Int → Int} : ∀ (k : Nat) (i : Int), (∀ j, i ≤ j → j < i + k → f j = 0) → sF f i k = 0
  | 0, _, _ => rfl
  | k + 1, i, q => by
    show f i + sF f (i + 1) k = 0
    rw [q i (by omega) (by omega), sF_zero k (i + 1) (fun j a b => q j (by omega) (by omega))]
    rfl
theorem sF_one {f : Int → Int} {x : Int} : ∀ (k : Nat) (i : Int), i ≤ x → x < i + k → (∀ j, i ≤ j → j < i + k → j ≠ x → f j = 0) → sF f i k = f x
  | 0, i, h1, h2, _ => by omega
  | k + 1, i, h1, h2, q => by
    show f i + sF f (i + 1) k = f x
    by_cases e : i = x
    · rw [e, sF_zero k (x + 1) (fun j a b => q j (by omega) (by omega) (by omega))]; omega
    · rw [q i (by omega) (by omega) e, sF_one k (i + 1) (by omega) (by omega) (fun j a b c => q j (by omega) (by omega) c)]; omega
def Tv (r : Int) (g : Nat) (r' k : Int) : Prop := g = 0 ∧ r' = r ∧ k = 21
theorem pl_takeBack {r N : Int} (hN : 0 ≤ N ∧ N ≤ 12) : ∀ (c n : Nat) (cnt i : Int) (S : Sg), 0 ≤ i → i + c = N → c < n → 0 ≤ cnt → cnt + c ≤ 100 → S 0 r 16 0 = N → (∀ j, 0 ≤ j → j < N → -1 ≤ S 0 r 23 j ∧ S 0 r 23 j < j) → (∀ j, 0 ≤ j → j < N → 0 ≤ S 0 r 21 j ∧ S 0 r 21 j ≤ 1) →
    ∃ S2, zf_L_takeBack_13 r n cnt i S = some (cnt + sF (fun j => S2 0 r 21 j - S 0 r 21 j) i c, S2) ∧ Fr (Tv r) S S2 ∧ (∀ j, j < i ∨ N ≤ j → S2 0 r 21 j = S 0 r 21 j) ∧ (∀ j, i ≤ j → j < N → (S2 0 r 21 j = 0 ∨ S2 0 r 21 j = 1) ∧ (S2 0 r 21 j = 1 ↔ (S 0 r 21 j = 1 ∨ (0 ≤ S 0 r 23 j ∧ S2 0 r 21 (S 0 r 23 j) = 1))))
  | 0, n + 1, cnt, i, S, h0, hc, _, _, _, hn, hu, hv => by
    refine ⟨S, ?_, fun _ _ _ _ => rfl, fun _ _ => rfl, fun j a b => by omega⟩
    rw [zf_L_takeBack_13, if_pos (by omega)]
    simp [sF]
  | c + 1, n + 1, cnt, i, S, h0, hc, h1, h2, h3, hn, hu, hv => by
    have u := hu i h0 (by omega)
    have v := hv i h0 (by omega)
    rw [zf_L_takeBack_13, if_neg (by omega), zck_b (by omega), zlt_v]
    unfold zf_L_takeBack_73
    simp only [zlt_v]
    rw [zw_in (x := i + 1) (by omega) (by omega), zw_in (x := cnt + 1) (by omega) (by omega)]
    by_cases hit : S 0 r 21 i = 0 ∧ 0 ≤ S 0 r 23 i ∧ S 0 r 21 (S 0 r 23 i) = 1
    · obtain ⟨t1, t2, t3⟩ := hit
      rw [if_pos t1, if_neg (by omega), if_neg (by omega), zck_b (by omega), if_pos t3]
      obtain ⟨S2, e1, e2, e3, e4⟩ := pl_takeBack (r := r) hN c n (cnt + 1) (i + 1) (zu S 0 r 21 i 1) (by omega) (by omega) (by omega) (by omega) (by omega) (by simp [zu, hn]) (by intro j a b; simp [zu]; exact hu j a b) (by
        intro j a b
        by_cases e : j = i
        · simp [zu, e]
        · simp [zu, e]; exact hv j a b)
      have ei : S2 0 r 21 i = 1 := by rw [e3 i (Or.inl (by omega))]; simp [zu]
      refine ⟨S2, ?_, ?_, ?_, ?_⟩
      · rw [e1]
        congr 2
        show _ = cnt + ((S2 0 r 21 i - S 0 r 21 i) + sF (fun j => S2 0 r 21 j - S 0 r 21 j) (i + 1) c)
        rw [ei, t1, sF_eq (g := fun j => S2 0 r 21 j - S 0 r 21 j) c (i + 1) (fun j a b => by simp [zu, show ¬ j = i by omega])]
        omega
      · intro g r' k hh
        rw [e2 g r' k hh]
        exact zu_ne hh
      · intro j hj
        rw [e3 j (by omega)]
        exact zu_pl (by omega)
      · intro j a b
        by_cases e : j = i
        · subst e
          refine ⟨Or.inr ei, fun _ => Or.inr ⟨t2, ?_⟩, fun _ => ei⟩
          rw [e3 _ (Or.inl (by omega)), zu_pl (by omega)]; exact t3
        · have := e4 j (by omega) b
          simp only [zu_pl (S := S) (g := 0) (r := r) (k := 21) (v := 1) e, zu_ne (S := S) (g := 0) (g' := 0) (r := r) (r' := r) (k := 21) (k' := 23) (i := i) (v := 1) (by omega)] at this
          exact this
    · have e0 : (if S 0 r 21 i = 0 then if S 0 r 23 i < 0 then zf_L_takeBack_13 r n cnt (i + 1) S else if S 0 r 16 0 ≤ S 0 r 23 i then zf_L_takeBack_13 r n cnt (i + 1) S else zck (0 ≤ S 0 r 23 i ∧ S 0 r 23 i < 12) (if S 0 r 21 (S 0 r 23 i) = 1 then zf_L_takeBack_13 r n (cnt + 1) (i + 1) (zu S 0 r 21 i 1) else zf_L_takeBack_13 r n cnt (i + 1) S) else zf_L_takeBack_13 r n cnt (i + 1) S) = zf_L_takeBack_13 r n cnt (i + 1) S := by
        by_cases t1 : S 0 r 21 i = 0
        · by_cases t2 : S 0 r 23 i < 0
          · rw [if_pos t1, if_pos t2]
          · rw [if_pos t1, if_neg t2, if_neg (by omega), zck_b (by omega), if_neg (fun t3 => hit ⟨t1, by omega, t3⟩)]
        · rw [if_neg t1]
      rw [e0]
      obtain ⟨S2, e1, e2, e3, e4⟩ := pl_takeBack (r := r) hN c n cnt (i + 1) S (by omega) (by omega) (by omega) (by omega) (by omega) hn hu hv
      have ei : S2 0 r 21 i = S 0 r 21 i := e3 i (Or.inl (by omega))
      refine ⟨S2, ?_, e2, fun j hj => e3 j (by omega), ?_⟩
      · rw [e1]
        congr 2
        show _ = cnt + ((S2 0 r 21 i - S 0 r 21 i) + sF (fun j => S2 0 r 21 j - S 0 r 21 j) (i + 1) c)
        rw [ei]; omega
      · intro j a b
        by_cases e : j = i
        · subst e
          refine ⟨by omega, fun q => Or.inl (by omega), fun q => ?_⟩
          rcases q with q | ⟨q1, q2⟩
          · omega
          · rw [e3 _ (Or.inl (by omega))] at q2
            have : ¬ S 0 r 21 j = 0 := fun z => hit ⟨z, q1, q2⟩
            omega
        · exact e4 j (by omega) b
def Tu (g : Nat) (r k : Int) : Prop := g = 5 ∧ r = 0 ∧ k = 19
/-- what the reference's recursion from x does to which laws are void -/
def Pvo (N x : Int) (T T2 : Sg) (c : Int) : Prop :=
  Fr Tu T T2 ∧ (∀ j, T2 5 0 19 j = T 5 0 19 j ∨ (0 ≤ j ∧ j < N ∧ T 5 0 19 j = 0 ∧ T2 5 0 19 j = 1)) ∧ T2 5 0 19 x = 1 ∧
  (∀ j, 0 ≤ j → j < N → T2 5 0 19 j = 1 → T 5 0 19 j = 1 ∨ j = x ∨ (0 ≤ T 5 0 18 j ∧ T2 5 0 19 (T 5 0 18 j) = 1)) ∧
  (∀ p j, 0 ≤ p → 0 ≤ j → j < N → T 5 0 19 p = 0 → T2 5 0 19 p = 1 → T 5 0 18 j = p → T2 5 0 19 j = 1) ∧
  c = sF (fun j => T2 5 0 19 j - T 5 0 19 j) 0 N.toNat
/-- the same, while the children from m on are still to come -/
def Qvo (N x m : Int) (T T2 : Sg) (c : Int) : Prop :=
  Fr Tu T T2 ∧ (∀ j, T2 5 0 19 j = T 5 0 19 j ∨ (0 ≤ j ∧ j < N ∧ T 5 0 19 j = 0 ∧ T2 5 0 19 j = 1)) ∧ T2 5 0 19 x = 1 ∧
  (∀ j, 0 ≤ j → j < N → T2 5 0 19 j = 1 → T 5 0 19 j = 1 ∨ j = x ∨ (0 ≤ T 5 0 18 j ∧ T2 5 0 19 (T 5 0 18 j) = 1)) ∧
  (∀ p j, 0 ≤ p → 0 ≤ j → j < N → (p = x → j < m) → T 5 0 19 p = 0 → T2 5 0 19 p = 1 → T 5 0 18 j = p → T2 5 0 19 j = 1) ∧
  c = sF (fun j => T2 5 0 19 j - T 5 0 19 j) 0 N.toNat
theorem sum_b {N : Int} (hN : 0 ≤ N ∧ N ≤ 12) {T T2 : Sg} (h : ∀ j, T2 5 0 19 j = T 5 0 19 j ∨ (0 ≤ j ∧ j < N ∧ T 5 0 19 j = 0 ∧ T2 5 0 19 j = 1)) : 0 ≤ sF (fun j => T2 5 0 19 j - T 5 0 19 j) 0 N.toNat ∧ sF (fun j => T2 5 0 19 j - T 5 0 19 j) 0 N.toNat ≤ 12 := by
  have := sF_le (f := fun j => T2 5 0 19 j - T 5 0 19 j) (m := 1) N.toNat 0 (fun j a b => by
    rcases h j with e | ⟨_, _, e1, e2⟩
    · simp [e]
    · simp [e1, e2])
  omega
theorem pl_vloop {N x : Int} (hN : 0 ≤ N ∧ N ≤ 12) (hx : 0 ≤ x ∧ x < N) (F : Int → Sg → Option (Int × Sg)) (T : Sg) (hn : T 5 0 0 16 = N) (hu : ∀ j, 0 ≤ j → j < N → T 5 0 18 j < j) (hv : ∀ j, 0 ≤ j → j < N → 0 ≤ T 5 0 19 j ∧ T 5 0 19 j ≤ 1)
    (hF : ∀ (k : Int) (U : Sg), x < k → k < N → U 5 0 0 16 = N → (∀ j, 0 ≤ j → j < N → U 5 0 18 j < j) → (∀ j, 0 ≤ j → j < N → 0 ≤ U 5 0 19 j ∧ U 5 0 19 j ≤ 1) → ∃ (c : Int) (U2 : Sg), F k U = some (c, U2) ∧ (U 5 0 19 k = 1 → U2 = U ∧ c = 0) ∧ (U 5 0 19 k = 0 → Pvo N k U U2 c)) :
    ∀ (c n : Nat) (k cnt : Int) (U : Sg), 0 ≤ k → k + c = N → c < n → Qvo N x k T U cnt → ∃ (a : Int) (U2 : Sg), zf_M_voided_29 F n x cnt k U = some (a, U2) ∧ Pvo N x T U2 a
  | 0, n + 1, k, cnt, U, h0, hc, _, hq => by
    obtain ⟨q1, q2, q3, q4, q5, q6⟩ := hq
    have e16 : U 5 0 0 16 = N := by rw [q1 5 0 0 (by unfold Tu; omega)]; exact hn
    rw [zf_M_voided_29, if_pos (by omega)]
    exact ⟨cnt, U, rfl, q1, q2, q3, q4, fun p j a b d e f g => q5 p j a b d (fun _ => by omega) e f g, q6⟩
  | c + 1, n + 1, k, cnt, U, h0, hc, h1, hq => by
    obtain ⟨q1, q2, q3, q4, q5, q6⟩ := id hq
    have e16 : U 5 0 0 16 = N := by rw [q1 5 0 0 (by unfold Tu; omega)]; exact hn
    have e18 : U 5 0 18 = T 5 0 18 := q1 5 0 18 (by unfold Tu; omega)
    have hvU : ∀ j, 0 ≤ j → j < N → 0 ≤ U 5 0 19 j ∧ U 5 0 19 j ≤ 1 := fun j a b => by
      have := hv j a b
      rcases q2 j with e | e <;> omega
    have hb := sum_b hN q2
    rw [zf_M_voided_29, if_neg (by omega), zck_b (by omega)]
    unfold zf_M_voided_63
    simp only [zlt_v]
    rw [zw_in (x := k + 1) (by omega) (by omega)]
    by_cases hch : U 5 0 18 k = x
    · have hk : x < k := by have := hu k h0 (by omega); rw [e18] at hch; omega
      rw [if_pos hch]
      obtain ⟨a, U2, f1, f2, f3⟩ := hF k U hk (by omega) e16 (by rw [e18]; exact hu) hvU
      rw [f1, zbd_s]
      have hvk := hvU k h0 (by omega)
      by_cases hv1 : U 5 0 19 k = 1
      · obtain ⟨g1, g2⟩ := f2 hv1
        subst g1; subst g2
        rw [zw_in (by omega) (by omega), show cnt + 0 = cnt by omega]
        refine pl_vloop hN hx F T hn hu hv hF c n (k + 1) cnt U2 (by omega) (by omega) (by omega) ⟨q1, q2, q3, q4, ?_, q6⟩
        intro p j a b d e f g i
        by_cases ej : j = k
        · rw [ej]; exact hv1
        · exact q5 p j a b d (fun z => by have := e z; omega) f g i
      · obtain ⟨p1, p2, p3, p4, p5, p6⟩ := f3 (by omega)
        have mono : ∀ j, U 5 0 19 j = 1 → U2 5 0 19 j = 1 := fun j z => by rcases p2 j with e | e <;> omega
        have b2 : ∀ j, U2 5 0 19 j = T 5 0 19 j ∨ (0 ≤ j ∧ j < N ∧ T 5 0 19 j = 0 ∧ U2 5 0 19 j = 1) := fun j => by
          rcases q2 j with e | e <;> rcases p2 j with e' | e'
          · left; omega
          · right; omega
          · right; omega
          · omega
        have hsum : cnt + a = sF (fun j => U2 5 0 19 j - T 5 0 19 j) 0 N.toNat := by
          rw [q6, p6]
          exact (sF_add N.toNat 0 (fun j _ _ => by omega)).symm
        have hb2 := sum_b hN b2
        rw [zw_in (by omega) (by omega)]
        refine pl_vloop hN hx F T hn hu hv hF c n (k + 1) (cnt + a) U2 (by omega) (by omega) (by omega) ⟨?_, b2, mono x q3, ?_, ?_, hsum⟩
        · intro g r k' hh
          rw [p1 g r k' hh, q1 g r k' hh]
        · intro j a1 b1 z
          rcases p4 j a1 b1 z with e | e | e
          · rcases q4 j a1 b1 e with y | y | y
            · exact Or.inl y
            · exact Or.inr (Or.inl y)
            · exact Or.inr (Or.inr ⟨y.1, mono _ y.2⟩)
          · subst e
            rw [e18] at hch
            exact Or.inr (Or.inr ⟨by omega, by rw [hch]; exact mono x q3⟩)
          · rw [e18] at e
            exact Or.inr (Or.inr e)
        · intro p j a1 b1 d e f g i
          by_cases hp : U 5 0 19 p = 1
          · by_cases ej : p = x ∧ j = k
            · rw [ej.2]; exact p3
            · exact mono j (q5 p j a1 b1 d (fun z => by have := e z; omega) f hp i)
          · have hp0 : U 5 0 19 p = 0 := by rcases q2 p with y | y <;> omega
            exact p5 p j a1 b1 d hp0 g (by rw [e18]; exact i)
    · rw [if_neg hch, zw_in (by omega) (by omega), show cnt + 0 = cnt by omega]
      refine pl_vloop hN hx F T hn hu hv hF c n (k + 1) cnt U (by omega) (by omega) (by omega) ⟨q1, q2, q3, q4, ?_, q6⟩
      intro p j a b d e f g i
      refine q5 p j a b d (fun z => ?_) f g i
      have := e z
      by_cases ej : j = k
      · exact absurd (show U 5 0 18 k = x by rw [e18, ← ej, i, z]) hch
      · omega
theorem pl_voided {N : Int} (hN : 0 ≤ N ∧ N ≤ 12) : ∀ (d : Nat) (x : Int) (T : Sg), N - x ≤ d → 0 ≤ x → x < N → T 5 0 0 16 = N → (∀ j, 0 ≤ j → j < N → T 5 0 18 j < j) → (∀ j, 0 ≤ j → j < N → 0 ≤ T 5 0 19 j ∧ T 5 0 19 j ≤ 1) → ∃ (c : Int) (T2 : Sg), zf_M_voided_D d x T = some (c, T2) ∧ (T 5 0 19 x = 1 → T2 = T ∧ c = 0) ∧ (T 5 0 19 x = 0 → Pvo N x T T2 c)
  | 0, x, T, hd, h0, hx, _, _, _ => by omega
  | d + 1, x, T, hd, h0, hx, hn, hu, hv => by
    rw [zf_M_voided_D]
    unfold zf_M_voided_B
    rw [zck_b (by omega)]
    by_cases hv1 : T 5 0 19 x = 1
    · rw [if_pos hv1]
      exact ⟨0, T, rfl, fun _ => ⟨rfl, rfl⟩, fun z => by omega⟩
    · have hv0 : T 5 0 19 x = 0 := by have := hv x h0 hx; omega
      rw [if_neg hv1, zlt_v]
      have e1 : ∀ j, zu T 5 0 19 x 1 5 0 19 j = if j = x then 1 else T 5 0 19 j := fun j => by simp [zu]
      have hQ : Qvo N x 0 T (zu T 5 0 19 x 1) 1 := by
        refine ⟨fun g r k hh => zu_ne hh, ?_, ?_, ?_, ?_, ?_⟩
        · intro j
          rw [e1]
          by_cases e : j = x
          · right; rw [if_pos e]; exact ⟨by omega, by omega, by rw [e]; exact hv0, rfl⟩
          · left; rw [if_neg e]
        · rw [e1, if_pos rfl]
        · intro j a b z
          rw [e1] at z
          by_cases e : j = x
          · exact Or.inr (Or.inl e)
          · rw [if_neg e] at z; exact Or.inl z
        · intro p j a b c e f g i
          rw [e1] at g
          by_cases ep : p = x
          · have := e ep; omega
          · rw [if_neg ep] at g; omega
        · have : sF (fun j => zu T 5 0 19 x 1 5 0 19 j - T 5 0 19 j) 0 N.toNat = zu T 5 0 19 x 1 5 0 19 x - T 5 0 19 x := sF_one N.toNat 0 h0 (by omega) (fun j a b c => by rw [e1, if_neg c]; omega)
          rw [this, e1, if_pos rfl]; omega
      obtain ⟨a, U2, f1, f2⟩ := pl_vloop hN ⟨h0, hx⟩ (zf_M_voided_D d) T hn hu hv (fun k U hk hk2 a b c => pl_voided hN d k U (by omega) (by omega) hk2 a b c) N.toNat 4096 0 1 (zu T 5 0 19 x 1) (by decide) (by omega) (by omega) hQ
      exact ⟨a, U2, f1, fun z => absurd z hv1, fun _ => f2⟩
