/-! ===== whole crews: when posts can all be filled (marriage with demands) ===== -/
def cnt : Nat → (Nat → Bool) → Nat
  | 0, _ => 0
  | n + 1, f => cnt n f + (f n).toNat
theorem cnt_congr {f g : Nat → Bool} : ∀ (n : Nat), (∀ k, k < n → f k = g k) → cnt n f = cnt n g
  | 0, _ => rfl
  | n + 1, h => by
    rw [cnt, cnt, cnt_congr n (fun k hk => h k (by omega)), h n (by omega)]
theorem cnt_mono {f g : Nat → Bool} : ∀ (n : Nat), (∀ k, k < n → f k = true → g k = true) → cnt n f ≤ cnt n g
  | 0, _ => Nat.le_refl _
  | n + 1, h => by
    have h1 := cnt_mono n (fun k hk => h k (by omega))
    have h2 := h n (by omega)
    unfold cnt
    cases q : f n with
    | false => simp only [Bool.toNat_false]; omega
    | true => rw [h2 q]; omega
theorem cnt_or_and (f g : Nat → Bool) : ∀ (n : Nat), cnt n (fun k => f k || g k) + cnt n (fun k => f k && g k) = cnt n f + cnt n g
  | 0 => rfl
  | n + 1 => by
    have h := cnt_or_and f g n
    unfold cnt
    dsimp only
    cases f n <;> cases g n <;> simp only [Bool.or_true, Bool.or_false, Bool.and_true, Bool.and_false, Bool.toNat_true, Bool.toNat_false] <;> omega
theorem cnt_false : ∀ (n : Nat), cnt n (fun _ => false) = 0
  | 0 => rfl
  | n + 1 => by rw [cnt, cnt_false n]; rfl
theorem cnt_zero {f : Nat → Bool} {n : Nat} (h : ∀ k, k < n → f k = false) : cnt n f = 0 := by
  rw [cnt_congr n h, cnt_false]
theorem cnt_pos {f : Nat → Bool} {n x : Nat} (hx : x < n) (h : f x = true) : 0 < cnt n f := by
  induction n with
  | zero => omega
  | succ n ih =>
    unfold cnt
    by_cases q : x = n
    · subst q; rw [h]; simp
    · have := ih (by omega); omega
theorem cnt_one {x n : Nat} (hx : x < n) : cnt n (fun k => decide (k = x)) = 1 := by
  induction n with
  | zero => omega
  | succ n ih =>
    unfold cnt
    dsimp only
    by_cases q : x = n
    · subst q
      rw [cnt_zero (fun k hk => decide_eq_false (by omega)), decide_eq_true (rfl : x = x)]; rfl
    · rw [ih (by omega), decide_eq_false (show ¬ n = x by omega)]; rfl
/-- one more, that wasn't there -/
theorem cnt_add1 {f : Nat → Bool} {x n : Nat} (hx : x < n) (h : f x = false) : cnt n (fun k => f k || decide (k = x)) = cnt n f + 1 := by
  have h1 := cnt_or_and f (fun k => decide (k = x)) n
  rw [cnt_one hx, cnt_zero (f := fun k => f k && decide (k = x)) (fun k hk => by
    by_cases q : k = x
    · subst q; rw [h]; rfl
    · rw [decide_eq_false q, Bool.and_false])] at h1
  omega
/-- one less -/
theorem cnt_sub1 {f : Nat → Bool} {x n : Nat} (hx : x < n) (h : f x = true) : cnt n (fun k => f k && !decide (k = x)) + 1 = cnt n f := by
  have h1 := cnt_add1 (f := fun k => f k && !decide (k = x)) hx (by rw [decide_eq_true rfl]; simp)
  rw [← h1]
  refine cnt_congr n (fun k hk => ?_)
  by_cases q : k = x
  · subst q; rw [h, decide_eq_true rfl]; rfl
  · rw [decide_eq_false q]; simp
/-- how many a set of posts wants; who fits one of them -/
def ned (h : Nat → Nat) : Nat → (Nat → Bool) → Nat
  | 0, _ => 0
  | n + 1, B => ned h n B + (if B n then h n else 0)
def fit (F : Nat → Nat → Bool) : Nat → (Nat → Bool) → Nat → Bool
  | 0, _, _ => false
  | n + 1, B, k => fit F n B k || (B n && F n k)
theorem fit_iff {F : Nat → Nat → Bool} {B : Nat → Bool} {k : Nat} : ∀ {n : Nat}, fit F n B k = true ↔ ∃ q, q < n ∧ B q = true ∧ F q k = true
  | 0 => by simp [fit]
  | n + 1 => by
    unfold fit
    rw [Bool.or_eq_true, fit_iff, Bool.and_eq_true]
    constructor
    · rintro (⟨q, a, b⟩ | b)
      · exact ⟨q, by omega, b⟩
      · exact ⟨n, by omega, b⟩
    · rintro ⟨q, a, b⟩
      by_cases e : q = n
      · subst e; exact Or.inr b
      · exact Or.inl ⟨q, by omega, b⟩
theorem ned_or_and (h : Nat → Nat) (A B : Nat → Bool) : ∀ (n : Nat), ned h n (fun q => A q || B q) + ned h n (fun q => A q && B q) = ned h n A + ned h n B
  | 0 => rfl
  | n + 1 => by
    have e := ned_or_and h A B n
    unfold ned
    dsimp only
    rcases Bool.eq_false_or_eq_true (A n) with a | a <;> rcases Bool.eq_false_or_eq_true (B n) with b | b <;> simp [a, b] <;> omega
theorem ned_congr {h : Nat → Nat} {A B : Nat → Bool} : ∀ (n : Nat), (∀ k, k < n → A k = B k) → ned h n A = ned h n B
  | 0, _ => rfl
  | n + 1, e => by
    rw [ned, ned, ned_congr n (fun k hk => e k (by omega)), e n (by omega)]
theorem ned_zero {h : Nat → Nat} : ∀ (n : Nat), ned h n (fun _ => false) = 0
  | 0 => rfl
  | n + 1 => by rw [ned, ned_zero n]; rfl
/-- apart from one post -/
theorem ned_split {h : Nat → Nat} {B : Nat → Bool} {i n : Nat} (hi : i < n) (hB : B i = true) : ned h n B = h i + ned h n (fun q => B q && !decide (q = i)) := by
  induction n with
  | zero => omega
  | succ n ih =>
    unfold ned
    dsimp only
    by_cases e : i = n
    · subst e
      rw [ned_congr (B := fun q => B q && !decide (q = i)) i (fun k hk => by rw [decide_eq_false (show ¬ k = i by omega)]; simp)]
      simp [hB]
      omega
    · rw [ih (by omega)]
      simp [show ¬ n = i by omega]
      omega
/-- any of the posts of A from i on have enough together who aren't taken -/
def Hal (m p : Nat) (h : Nat → Nat) (F : Nat → Nat → Bool) (A : Nat → Bool) (i : Nat) (t : Nat → Bool) : Prop :=
  ∀ B : Nat → Bool, (∀ q, B q = true → A q = true ∧ i ≤ q) → ned h p B ≤ cnt m (fun k => fit F p B k && !t k)
theorem fit_or {F : Nat → Nat → Bool} {A B : Nat → Bool} {k n : Nat} : fit F n (fun q => A q || B q) k = (fit F n A k || fit F n B k) := by
  rw [Bool.eq_iff_iff, Bool.or_eq_true, fit_iff, fit_iff, fit_iff]
  constructor
  · rintro ⟨q, a, b, c⟩
    rcases Bool.or_eq_true_iff.mp b with b | b
    · exact Or.inl ⟨q, a, b, c⟩
    · exact Or.inr ⟨q, a, b, c⟩
  · rintro (⟨q, a, b, c⟩ | ⟨q, a, b, c⟩)
    · exact ⟨q, a, Bool.or_eq_true_iff.mpr (Or.inl b), c⟩
    · exact ⟨q, a, Bool.or_eq_true_iff.mpr (Or.inr b), c⟩
theorem fit_and {F : Nat → Nat → Bool} {A B : Nat → Bool} {k n : Nat} (h : fit F n (fun q => A q && B q) k = true) : fit F n A k = true ∧ fit F n B k = true := by
  rw [fit_iff] at h
  obtain ⟨q, a, b, c⟩ := h
  rw [Bool.and_eq_true] at b
  exact ⟨fit_iff.mpr ⟨q, a, b.1, c⟩, fit_iff.mpr ⟨q, a, b.2, c⟩⟩
/-- two tight sets together are tight -/
theorem tight_or {m p : Nat} {h : Nat → Nat} {F : Nat → Nat → Bool} {A : Nat → Bool} {i : Nat} {t : Nat → Bool} (H : Hal m p h F A i t) {B C : Nat → Bool} (hB : ∀ q, B q = true → A q = true ∧ i ≤ q) (hC : ∀ q, C q = true → A q = true ∧ i ≤ q) (tB : ned h p B = cnt m (fun k => fit F p B k && !t k)) (tC : ned h p C = cnt m (fun k => fit F p C k && !t k)) : ned h p (fun q => B q || C q) = cnt m (fun k => fit F p (fun q => B q || C q) k && !t k) := by
  have h1 := H (fun q => B q || C q) (fun q e => by
    rcases Bool.or_eq_true_iff.mp e with e | e
    · exact hB q e
    · exact hC q e)
  have h2 := H (fun q => B q && C q) (fun q e => hB q (Bool.and_eq_true_iff.mp e).1)
  have h3 := ned_or_and h B C p
  have h4 := cnt_or_and (fun k => fit F p B k && !t k) (fun k => fit F p C k && !t k) m
  have h5 : cnt m (fun k => fit F p (fun q => B q || C q) k && !t k) = cnt m (fun k => (fit F p B k && !t k) || (fit F p C k && !t k)) := by
    refine cnt_congr m (fun k _ => ?_)
    rw [fit_or]
    cases fit F p B k <;> cases fit F p C k <;> cases t k <;> rfl
  have h6 : cnt m (fun k => fit F p (fun q => B q && C q) k && !t k) ≤ cnt m (fun k => (fit F p B k && !t k) && (fit F p C k && !t k)) := by
    refine cnt_mono m (fun k _ e => ?_)
    rw [Bool.and_eq_true] at e
    have := fit_and e.1
    rw [this.1, this.2, e.2]
    rfl
  omega
/-- a post's crew can be chosen, one by one, so that the others' need stays met -/
theorem hal_pick {m p : Nat} {h : Nat → Nat} {F : Nat → Nat → Bool} {A : Nat → Bool} {i j : Nat} : ∀ (d : Nat) (t : Nat → Bool), Hal m p h F A j t → (∀ B : Nat → Bool, (∀ q, B q = true → A q = true ∧ j ≤ q) → ned h p B + d ≤ cnt m (fun k => (fit F p B k || F i k) && !t k)) →
    ∃ s : Nat → Bool, (∀ k, s k = true → F i k = true ∧ t k = false ∧ k < m) ∧ cnt m s = d ∧ Hal m p h F A j (fun k => t k || s k)
  | 0, t, H, _ => ⟨fun _ => false, fun k e => (by cases e), cnt_false m, by
      intro B hB
      have := H B hB
      rw [cnt_congr m (f := fun k => fit F p B k && !(t k || false)) (g := fun k => fit F p B k && !t k) (fun k _ => by rw [Bool.or_false])]
      exact this⟩
  | d + 1, t, H, G => by
    -- one can be taken so that all stays met
    have ex : ∃ x, x < m ∧ F i x = true ∧ t x = false ∧ Hal m p h F A j (fun k => t k || decide (k = x)) := by
      refine Classical.byContradiction (fun no => ?_)
      have no : ∀ x, x < m → F i x = true → t x = false → ∃ B : Nat → Bool, (∀ q, B q = true → A q = true ∧ j ≤ q) ∧ cnt m (fun k => fit F p B k && !(t k || decide (k = x))) < ned h p B := by
        intro x h1 h2 h3
        refine Classical.byContradiction (fun no2 => no ⟨x, h1, h2, h3, fun B hB => ?_⟩)
        refine Nat.le_of_not_lt (fun q => no2 ⟨B, hB, q⟩)
      have all : ∀ K, K ≤ m → ∃ B : Nat → Bool, (∀ q, B q = true → A q = true ∧ j ≤ q) ∧ ned h p B = cnt m (fun k => fit F p B k && !t k) ∧ ∀ x, x < K → F i x = true → t x = false → fit F p B x = true := by
        intro K
        induction K with
        | zero =>
          intro _
          refine ⟨fun _ => false, fun q e => (by cases e), ?_, fun x hx => absurd hx (Nat.not_lt_zero _)⟩
          rw [ned_zero, cnt_zero (fun k _ => ?_)]
          have : fit F p (fun _ => false) k = false := by
            rw [Bool.eq_false_iff]
            intro e
            rw [fit_iff] at e
            obtain ⟨q, -, b, -⟩ := e
            cases b
          rw [this]; rfl
        | succ K ih =>
          intro hK
          obtain ⟨B, b1, b2, b3⟩ := ih (by omega)
          by_cases hx : F i K = true ∧ t K = false
          · obtain ⟨C, c1, c2⟩ := no K (by omega) hx.1 hx.2
            have c3 := H C c1
            -- C is tight, and K fits it
            have c4 : cnt m (fun k => fit F p C k && !t k) ≤ cnt m (fun k => fit F p C k && !(t k || decide (k = K))) + (fit F p C K).toNat := by
              cases e : fit F p C K with
              | false =>
                refine Nat.le_of_eq (cnt_congr m (fun k _ => ?_))
                by_cases q : k = K
                · subst q; rw [e]; rfl
                · rw [decide_eq_false q, Bool.or_false]
              | true =>
                have := cnt_sub1 (f := fun k => fit F p C k && !t k) (x := K) (n := m) (by omega) (by rw [e, hx.2]; rfl)
                rw [← this]
                refine Nat.le_of_eq ?_
                congr 1
                refine cnt_congr m (fun k _ => ?_)
                cases fit F p C k <;> cases t k <;> cases decide (k = K) <;> rfl
            have c5 : fit F p C K = true := by
              cases e : fit F p C K with
              | true => rfl
              | false =>
                rw [e] at c4
                simp only [Bool.toNat_false] at c4
                omega
            rw [c5] at c4
            simp only [Bool.toNat_true] at c4
            refine ⟨fun q => B q || C q, fun q e => ?_, tight_or H b1 c1 b2 (by omega), fun x h1 h2 h3 => ?_⟩
            · rcases Bool.or_eq_true_iff.mp e with e | e
              · exact b1 q e
              · exact c1 q e
            · rw [fit_or]
              by_cases e : x = K
              · subst e; rw [c5, Bool.or_true]
              · rw [b3 x (by omega) h2 h3]; rfl
          · refine ⟨B, b1, b2, fun x h1 h2 h3 => ?_⟩
            by_cases e : x = K
            · subst e; exact absurd ⟨h2, h3⟩ hx
            · exact b3 x (by omega) h2 h3
      obtain ⟨B, b1, b2, b3⟩ := all m (Nat.le_refl _)
      have g := G B b1
      have e : cnt m (fun k => (fit F p B k || F i k) && !t k) = cnt m (fun k => fit F p B k && !t k) := by
        refine cnt_congr m (fun k hk => ?_)
        cases q : fit F p B k with
        | true => rfl
        | false =>
          cases q2 : F i k with
          | false => rfl
          | true =>
            cases q3 : t k with
            | true => rfl
            | false =>
              have := b3 k hk q2 q3
              rw [q] at this
              cases this
      omega
    obtain ⟨x, x1, x2, x3, x4⟩ := ex
    obtain ⟨s, s1, s2, s3⟩ := hal_pick (i := i) d (fun k => t k || decide (k = x)) x4 (fun B hB => by
      have g := G B hB
      have := cnt_sub1 (f := fun k => (fit F p B k || F i k) && !t k) (x := x) (n := m) x1 (by rw [x2, x3]; simp)
      have e : cnt m (fun k => ((fit F p B k || F i k) && !t k) && !decide (k = x)) = cnt m (fun k => (fit F p B k || F i k) && !(t k || decide (k = x))) := by
        refine cnt_congr m (fun k _ => ?_)
        cases (fit F p B k || F i k) <;> cases t k <;> cases decide (k = x) <;> rfl
      omega)
    have sx : s x = false := by
      cases e : s x with
      | false => rfl
      | true =>
        have := (s1 x e).2.1
        rw [decide_eq_true rfl, Bool.or_true] at this
        cases this
    refine ⟨fun k => s k || decide (k = x), fun k e => ?_, by rw [cnt_add1 x1 sx, s2], ?_⟩
    · rcases Bool.or_eq_true_iff.mp e with e | e
      · have := s1 k e
        exact ⟨this.1, (Bool.or_eq_false_iff.mp this.2.1).1, this.2.2⟩
      · have := of_decide_eq_true e
        subst this
        exact ⟨x2, x3, x1⟩
    · intro B hB
      have := s3 B hB
      rw [cnt_congr m (f := fun k => fit F p B k && !(t k || (s k || decide (k = x)))) (g := fun k => fit F p B k && !((t k || decide (k = x)) || s k)) (fun k _ => by
        cases t k <;> cases s k <;> cases decide (k = x) <;> rfl)]
      exact this
/-- a whole crew for a post -/
def Crw (m : Nat) (h : Nat → Nat) (F : Nat → Nat → Bool) (i : Nat) (t s : Nat → Bool) : Prop := (∀ k, s k = true → F i k = true ∧ t k = false ∧ k < m) ∧ cnt m s = h i
theorem hal_step {m p : Nat} {h : Nat → Nat} {F : Nat → Nat → Bool} {A : Nat → Bool} {i : Nat} {t : Nat → Bool} (hi : i < p) (hA : A i = true) (H : Hal m p h F A i t) : ∃ s, Crw m h F i t s ∧ Hal m p h F A (i + 1) (fun k => t k || s k) := by
  obtain ⟨s, s1, s2, s3⟩ := hal_pick (h := h) (F := F) (A := A) (i := i) (j := i + 1) (h i) t (fun B hB => H B (fun q e => ⟨(hB q e).1, by have := (hB q e).2; omega⟩)) (fun B hB => by
    have hBi : B i = false := by
      cases e : B i with
      | false => rfl
      | true => have := (hB i e).2; omega
    have g := H (fun q => B q || decide (q = i)) (fun q e => by
      rcases Bool.or_eq_true_iff.mp e with e | e
      · exact ⟨(hB q e).1, by have := (hB q e).2; omega⟩
      · have := of_decide_eq_true e
        subst this
        exact ⟨hA, Nat.le_refl _⟩)
    rw [ned_split (B := fun q => B q || decide (q = i)) hi (by simp)] at g
    rw [ned_congr (A := fun q => (B q || decide (q = i)) && !decide (q = i)) (B := B) p (fun q _ => by
      by_cases e : q = i
      · subst e; rw [hBi, decide_eq_true rfl]; rfl
      · rw [decide_eq_false e]; simp)] at g
    have e : cnt m (fun k => fit F p (fun q => B q || decide (q = i)) k && !t k) = cnt m (fun k => (fit F p B k || F i k) && !t k) := by
      refine cnt_congr m (fun k _ => ?_)
      rw [fit_or]
      have : fit F p (fun q => decide (q = i)) k = F i k := by
        rw [Bool.eq_iff_iff, fit_iff]
        constructor
        · rintro ⟨q, -, b, c⟩
          have := of_decide_eq_true b
          subst this
          exact c
        · intro c
          exact ⟨i, hi, decide_eq_true rfl, c⟩
      rw [this]
    omega)
  exact ⟨s, ⟨s1, s2⟩, s3⟩
theorem hal_skip {m p : Nat} {h : Nat → Nat} {F : Nat → Nat → Bool} {A : Nat → Bool} {i : Nat} {t : Nat → Bool} (hA : A i = false) : Hal m p h F A i t ↔ Hal m p h F A (i + 1) t := by
  constructor
  · intro H B hB
    exact H B (fun q e => ⟨(hB q e).1, by have := (hB q e).2; omega⟩)
  · intro H B hB
    refine H B (fun q e => ⟨(hB q e).1, ?_⟩)
    have := hB q e
    have : q ≠ i := by
      intro z
      subst z
      rw [hA] at this
      exact absurd this.1 (by decide)
    omega
theorem hal_back {m p : Nat} {h : Nat → Nat} {F : Nat → Nat → Bool} {A : Nat → Bool} {i : Nat} {t s : Nat → Bool} (hi : i < p) (hs : Crw m h F i t s) (H : Hal m p h F A (i + 1) (fun k => t k || s k)) : Hal m p h F A i t := by
  intro B hB
  obtain ⟨s1, s2⟩ := hs
  have tail : ∀ C : Nat → Bool, (∀ q, C q = true → B q = true ∧ q ≠ i) → ned h p C ≤ cnt m (fun k => fit F p C k && !(t k || s k)) := fun C hC => H C (fun q e => by
    have := hC q e
    have := hB q this.1
    exact ⟨this.1, by omega⟩)
  by_cases e : B i = true
  · rw [ned_split hi e]
    have h1 := tail (fun q => B q && !decide (q = i)) (fun q e => by
      rw [Bool.and_eq_true] at e
      refine ⟨e.1, fun z => ?_⟩
      rw [decide_eq_true z] at e
      exact absurd e.2 (by decide))
    have h2 := cnt_or_and s (fun k => fit F p (fun q => B q && !decide (q = i)) k && !(t k || s k)) m
    rw [cnt_zero (f := fun k => s k && (fit F p (fun q => B q && !decide (q = i)) k && !(t k || s k))) (fun k _ => by
      cases s k <;> simp)] at h2
    have h3 : cnt m (fun k => s k || (fit F p (fun q => B q && !decide (q = i)) k && !(t k || s k))) ≤ cnt m (fun k => fit F p B k && !t k) := by
      refine cnt_mono m (fun k hk z => ?_)
      rcases Bool.or_eq_true_iff.mp z with z | z
      · have := s1 k z
        rw [this.2.1, fit_iff.mpr ⟨i, hi, e, this.1⟩]
        rfl
      · rw [Bool.and_eq_true] at z
        have := fit_and (A := B) (B := fun q => !decide (q = i)) z.1
        rw [this.1]
        cases q : t k with
        | false => rfl
        | true => rw [q] at z; exact absurd z.2 (by simp)
    omega
  · have e : B i = false := by simpa using e
    have h1 := tail B (fun q z => ⟨z, fun y => by subst y; rw [e] at z; cases z⟩)
    have h2 : cnt m (fun k => fit F p B k && !(t k || s k)) ≤ cnt m (fun k => fit F p B k && !t k) := by
      refine cnt_mono m (fun k hk z => ?_)
      rw [Bool.and_eq_true] at z
      rw [z.1]
      cases q : t k with
      | false => rfl
      | true => rw [q] at z; exact absurd z.2 (by simp)
    omega
