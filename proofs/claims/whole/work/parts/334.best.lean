/-! ===== the best set of posts, and what is best from a post on ===== -/
def gd (q : Nat) : Nat := 256 + 2 ^ (7 - q)
def hor : Nat → (Nat → Bool) → Nat
  | 0, _ => 0
  | n + 1, A => 2 * hor n A + (A n).toNat
theorem hor_lt (A : Nat → Bool) : ∀ n, hor n A < 2 ^ n
  | 0 => by simp [hor]
  | n + 1 => by
    have := hor_lt A n
    unfold hor
    rw [Nat.pow_succ]
    cases A n <;> simp <;> omega
theorem hor_inj {A B : Nat → Bool} : ∀ n, hor n A = hor n B → ∀ q, q < n → A q = B q
  | 0, _, _, hq => absurd hq (Nat.not_lt_zero _)
  | n + 1, h, q, hq => by
    unfold hor at h
    have e : A n = B n := by
      cases a : A n <;> cases b : B n <;> rw [a, b] at h <;> simp at h <;> first | rfl | omega
    by_cases z : q = n
    · subst z; exact e
    · rw [e] at h
      exact hor_inj n (by omega) q (by omega)
theorem ite_nat (b : Bool) (x : Nat) : (if b = true then x else 0) = x * b.toNat := by
  cases b <;> simp
theorem sco_eq (A : Nat → Bool) : ned gd 8 A = 256 * cnt 8 A + hor 8 A := by
  simp only [ned, cnt, hor, ite_nat]
  have g0 : gd 0 = 384 := by decide
  have g1 : gd 1 = 320 := by decide
  have g2 : gd 2 = 288 := by decide
  have g3 : gd 3 = 272 := by decide
  have g4 : gd 4 = 264 := by decide
  have g5 : gd 5 = 260 := by decide
  have g6 : gd 6 = 258 := by decide
  have g7 : gd 7 = 257 := by decide
  rw [g0, g1, g2, g3, g4, g5, g6, g7]
  omega
theorem sco_inj {A B : Nat → Bool} (h : ned gd 8 A = ned gd 8 B) : ∀ q, q < 8 → A q = B q := by
  rw [sco_eq, sco_eq] at h
  have h1 := hor_lt A 8
  have h2 := hor_lt B 8
  refine hor_inj 8 ?_
  rw [show 2 ^ 8 = 256 from rfl] at h1 h2
  omega
theorem Hal.congr {m p : Nat} {h : Nat → Nat} {F G : Nat → Nat → Bool} {A B : Nat → Bool} {i : Nat} {t : Nat → Bool} (hA : ∀ q, B q = true → i ≤ q → A q = true) (hF : ∀ q k, A q = true → i ≤ q → k < m → F q k = G q k) (H : Hal m p h F A i t) : Hal m p h G B i t := by
  intro C hC
  have c1 : ∀ q, C q = true → A q = true ∧ i ≤ q := fun q e => ⟨hA q (hC q e).1 (hC q e).2, (hC q e).2⟩
  have := H C c1
  refine Nat.le_trans this (Nat.le_of_eq (cnt_congr m (fun k hk => ?_)))
  have e : fit F p C k = fit G p C k := by
    rw [Bool.eq_iff_iff, fit_iff, fit_iff]
    constructor
    · rintro ⟨q, a, b, c⟩
      exact ⟨q, a, b, by rw [← hF q k (c1 q b).1 (c1 q b).2 hk]; exact c⟩
    · rintro ⟨q, a, b, c⟩
      exact ⟨q, a, b, by rw [hF q k (c1 q b).1 (c1 q b).2 hk]; exact c⟩
  rw [e]
theorem Hal.t {m p : Nat} {h : Nat → Nat} {F : Nat → Nat → Bool} {A : Nat → Bool} {i : Nat} {t u : Nat → Bool} (ht : ∀ k, k < m → t k = u k) (H : Hal m p h F A i t) : Hal m p h F A i u := by
  intro B hB
  have := H B hB
  rw [cnt_congr m (f := fun k => fit F p B k && !u k) (g := fun k => fit F p B k && !t k) (fun k hk => by rw [ht k hk])]
  exact this
/-- posts that may be filled, from i on -/
def Adm (h : Nat → Nat) (A : Nat → Bool) (i : Nat) : Prop := ∀ q, A q = true → i ≤ q ∧ q < 8 ∧ 0 < h q
def Mx (h : Nat → Nat) (F : Nat → Nat → Bool) (i : Nat) (t : Nat → Bool) (v : Nat) : Prop :=
  (∃ A, Adm h A i ∧ Hal 9 8 h F A i t ∧ ned gd 8 A = v) ∧ ∀ A, Adm h A i → Hal 9 8 h F A i t → ned gd 8 A ≤ v
theorem Mx.uniq {h : Nat → Nat} {F : Nat → Nat → Bool} {i : Nat} {t : Nat → Bool} {v w : Nat} (a : Mx h F i t v) (b : Mx h F i t w) : v = w := by
  obtain ⟨⟨A, a1, a2, a3⟩, a4⟩ := a
  obtain ⟨⟨B, b1, b2, b3⟩, b4⟩ := b
  have := a4 B b1 b2
  have := b4 A a1 a2
  omega
theorem mx_8 (h : Nat → Nat) (F : Nat → Nat → Bool) (t : Nat → Bool) : Mx h F 8 t 0 := by
  refine ⟨⟨fun _ => false, fun q e => (by cases e), fun B hB => ?_, ned_zero 8⟩, fun A hA _ => ?_⟩
  · rw [ned_congr (B := fun _ => false) 8 (fun q _ => by
      cases e : B q with
      | false => rfl
      | true => exact absurd (hB q e).1 (fun z => by cases z)), ned_zero]
    exact Nat.zero_le _
  · rw [ned_congr (B := fun _ => false) 8 (fun q hq => by
      cases e : A q with
      | false => rfl
      | true => have := hA q e; omega), ned_zero]
    exact Nat.le_refl _
theorem Mx.mono {h : Nat → Nat} {F : Nat → Nat → Bool} {i : Nat} {t : Nat → Bool} {v w : Nat} (a : Mx h F i t v) (b : Mx h F (i + 1) t w) : w ≤ v := by
  obtain ⟨⟨B, b1, b2, b3⟩, b4⟩ := b
  rw [← b3]
  refine a.2 B (fun q e => ⟨by have := b1 q e; omega, (b1 q e).2⟩) ?_
  refine (hal_skip ?_).mpr b2
  cases e : B i with
  | false => rfl
  | true => have := b1 i e; omega
/-- with a crew for the post: what is best behind it, and the post -/
theorem Mx.crew {h : Nat → Nat} {F : Nat → Nat → Bool} {i : Nat} {t s : Nat → Bool} {v w : Nat} (hi : i < 8) (hh : 0 < h i) (hs : Crw 9 h F i t s) (a : Mx h F i t v) (b : Mx h F (i + 1) (fun k => t k || s k) w) : gd i + w ≤ v := by
  obtain ⟨⟨B, b1, b2, b3⟩, b4⟩ := b
  have hBi : B i = false := by
    cases e : B i with
    | false => rfl
    | true => have := b1 i e; omega
  have := a.2 (fun q => B q || decide (q = i)) (fun q e => by
    rcases Bool.or_eq_true_iff.mp e with e | e
    · exact ⟨by have := b1 q e; omega, (b1 q e).2⟩
    · have := of_decide_eq_true e
      subst this
      exact ⟨Nat.le_refl _, hi, hh⟩) (hal_back hi hs (b2.congr (fun q e z => by
        rcases Bool.or_eq_true_iff.mp e with e | e
        · exact e
        · have := of_decide_eq_true e; omega) (fun _ _ _ _ _ => rfl)))
  rw [ned_split (B := fun q => B q || decide (q = i)) hi (by simp), ned_congr (A := fun q => (B q || decide (q = i)) && !decide (q = i)) (B := B) 8 (fun q _ => by
    by_cases e : q = i
    · subst e; rw [hBi]; simp
    · simp [e]), b3] at this
  exact this
theorem mx_step {h : Nat → Nat} {F : Nat → Nat → Bool} {i : Nat} {t : Nat → Bool} {v v0 : Nat} (hi : i < 8) (V : (Nat → Bool) → Nat) (h0 : Mx h F (i + 1) t v0) (hV : ∀ s, Crw 9 h F i t s → Mx h F (i + 1) (fun k => t k || s k) (V s)) (b0 : v0 ≤ v) (b1 : 0 < h i → ∀ s, Crw 9 h F i t s → gd i + V s ≤ v) (b2 : v = v0 ∨ (0 < h i ∧ ∃ s, Crw 9 h F i t s ∧ v = gd i + V s)) : Mx h F i t v := by
  refine ⟨?_, fun A hA H => ?_⟩
  · rcases b2 with e | ⟨hh, s, hs, e⟩
    · obtain ⟨⟨A, a1, a2, a3⟩, -⟩ := h0
      refine ⟨A, fun q z => ⟨by have := a1 q z; omega, (a1 q z).2⟩, (hal_skip ?_).mpr a2, by omega⟩
      cases z : A i with
      | false => rfl
      | true => have := a1 i z; omega
    · obtain ⟨⟨B, c1, c2, c3⟩, -⟩ := hV s hs
      have hBi : B i = false := by
        cases e : B i with
        | false => rfl
        | true => have := c1 i e; omega
      refine ⟨fun q => B q || decide (q = i), fun q e => ?_, hal_back hi hs (c2.congr (fun q e z => ?_) (fun _ _ _ _ _ => rfl)), ?_⟩
      · rcases Bool.or_eq_true_iff.mp e with e | e
        · exact ⟨by have := c1 q e; omega, (c1 q e).2⟩
        · have := of_decide_eq_true e
          subst this
          exact ⟨Nat.le_refl _, hi, hh⟩
      · rcases Bool.or_eq_true_iff.mp e with e | e
        · exact e
        · have := of_decide_eq_true e; omega
      · rw [ned_split (B := fun q => B q || decide (q = i)) hi (by simp), ned_congr (A := fun q => (B q || decide (q = i)) && !decide (q = i)) (B := B) 8 (fun q _ => by
          by_cases e : q = i
          · subst e; rw [hBi]; simp
          · simp [e]), c3, e]
  · cases e : A i with
    | true =>
      have hh := (hA i e).2.2
      obtain ⟨s, hs, H2⟩ := hal_step hi e H
      have := (hV s hs).2 (fun q => A q && !decide (q = i)) (fun q z => by
        rw [Bool.and_eq_true] at z
        have h1 := hA q z.1
        have h2 : q ≠ i := by
          intro y
          rw [decide_eq_true y] at z
          exact absurd z.2 (by decide)
        exact ⟨by omega, h1.2⟩) (H2.congr (fun q z _ => (Bool.and_eq_true_iff.mp z).1) (fun _ _ _ _ _ => rfl))
      have := b1 hh s hs
      rw [ned_split hi e]
      omega
    | false =>
      have := h0.2 A (fun q z => by
        have h1 := hA q z
        have h2 : q ≠ i := by
          intro y
          subst y
          rw [e] at z
          cases z
        exact ⟨by omega, h1.2⟩) ((hal_skip e).mp H)
      omega
/-- the best set, as far as it lies from i on -/
def Frm (O : Nat → Bool) (i : Nat) : Nat → Bool := fun q => O q && decide (i ≤ q)
theorem frm_adm {h : Nat → Nat} {O : Nat → Bool} (hO : Adm h O 0) (i : Nat) : Adm h (Frm O i) i := fun q e => by
  unfold Frm at e
  rw [Bool.and_eq_true] at e
  exact ⟨of_decide_eq_true e.2, (hO q e.1).2⟩
theorem frm_hal {h : Nat → Nat} {F : Nat → Nat → Bool} {O : Nat → Bool} {i : Nat} {t : Nat → Bool} (H : Hal 9 8 h F O i t) : Hal 9 8 h F (Frm O i) i t := H.congr (fun q e _ => by
  unfold Frm at e
  exact (Bool.and_eq_true_iff.mp e).1) (fun _ _ _ _ _ => rfl)
theorem frm_0 {h : Nat → Nat} {O : Nat → Bool} {i : Nat} (hi : i < 8) (e : O i = false) : ned h 8 (Frm O i) = ned h 8 (Frm O (i + 1)) := ned_congr 8 (fun q _ => by
  unfold Frm
  by_cases z : q = i
  · subst z; rw [e]; rfl
  · congr 1
    rw [Bool.eq_iff_iff, decide_eq_true_iff, decide_eq_true_iff]
    omega)
theorem frm_1 {h : Nat → Nat} {O : Nat → Bool} {i : Nat} (hi : i < 8) (e : O i = true) : ned h 8 (Frm O i) = h i + ned h 8 (Frm O (i + 1)) := by
  rw [ned_split (i := i) hi (by unfold Frm; rw [e]; simp)]
  congr 1
  refine ned_congr 8 (fun q _ => ?_)
  unfold Frm
  by_cases z : q = i
  · subst z; simp
  · cases O q
    · rfl
    · simp only [Bool.true_and]
      rw [Bool.eq_iff_iff, Bool.and_eq_true, decide_eq_true_iff, decide_eq_true_iff]
      simp [z]
      omega
/-- the best set's part from i on is the best there is -/
def OptA (h : Nat → Nat) (F : Nat → Nat → Bool) (O : Nat → Bool) (i : Nat) (t : Nat → Bool) : Prop := Adm h O 0 ∧ Hal 9 8 h F O i t ∧ Mx h F i t (ned gd 8 (Frm O i))
theorem opt_skip {h : Nat → Nat} {F : Nat → Nat → Bool} {O : Nat → Bool} {i : Nat} {t : Nat → Bool} (hi : i < 8) (a : OptA h F O i t) (e : O i = false) {w : Nat} (b : Mx h F (i + 1) t w) : w = ned gd 8 (Frm O i) ∧ OptA h F O (i + 1) t := by
  obtain ⟨a1, a2, a3⟩ := a
  have h1 := a3.mono b
  have h2 := (hal_skip e).mp a2
  have h3 := b.2 (Frm O (i + 1)) (frm_adm a1 _) (frm_hal h2)
  have h4 := frm_0 (h := gd) hi e
  refine ⟨by omega, a1, h2, ?_⟩
  rw [show ned gd 8 (Frm O (i + 1)) = w by omega]
  exact b
theorem opt_take {h : Nat → Nat} {F : Nat → Nat → Bool} {O : Nat → Bool} {i : Nat} {t : Nat → Bool} (hi : i < 8) (a : OptA h F O i t) (e : O i = true) {w : Nat} (b : Mx h F (i + 1) t w) : w ≠ ned gd 8 (Frm O i) := by
  obtain ⟨a1, a2, a3⟩ := a
  obtain ⟨⟨B, b1, b2, b3⟩, b4⟩ := b
  intro z
  have := sco_inj (b3.trans z) i hi
  unfold Frm at this
  rw [e, decide_eq_true (Nat.le_refl i)] at this
  have := b1 i this
  omega
theorem opt_crew {h : Nat → Nat} {F : Nat → Nat → Bool} {O : Nat → Bool} {i : Nat} {t s : Nat → Bool} (hi : i < 8) (a : OptA h F O i t) (e : O i = true) (hs : Crw 9 h F i t s) {w : Nat} (b : Mx h F (i + 1) (fun k => t k || s k) w) : (gd i + w = ned gd 8 (Frm O i) ↔ Hal 9 8 h F O (i + 1) (fun k => t k || s k)) ∧ (Hal 9 8 h F O (i + 1) (fun k => t k || s k) → OptA h F O (i + 1) (fun k => t k || s k)) := by
  obtain ⟨a1, a2, a3⟩ := a
  have hh := (a1 i e).2.2
  have h1 := a3.crew hi hh hs b
  have h2 := frm_1 (h := gd) hi e
  have back : Hal 9 8 h F O (i + 1) (fun k => t k || s k) → w = ned gd 8 (Frm O (i + 1)) := by
    intro H
    have h3 := b.2 (Frm O (i + 1)) (frm_adm a1 _) (frm_hal H)
    omega
  refine ⟨⟨fun z => ?_, fun H => by rw [back H]; omega⟩, fun H => ⟨a1, H, by rw [← back H]; exact b⟩⟩
  obtain ⟨⟨B, b1, b2, b3⟩, b4⟩ := b
  have h3 := sco_inj (A := B) (B := Frm O (i + 1)) (by omega)
  refine b2.congr (fun q y z2 => ?_) (fun _ _ _ _ _ => rfl)
  have h4 := a1 q y
  rw [h3 q (by omega)]
  unfold Frm
  rw [y, decide_eq_true z2]
  rfl
/-- the best set is the only one -/
def Best (h : Nat → Nat) (F : Nat → Nat → Bool) (O : Nat → Bool) : Prop := Adm h O 0 ∧ Hal 9 8 h F O 0 (fun _ => false) ∧ ∀ A, Adm h A 0 → Hal 9 8 h F A 0 (fun _ => false) → ned gd 8 A ≤ ned gd 8 O
theorem Best.opt {h : Nat → Nat} {F : Nat → Nat → Bool} {O : Nat → Bool} (a : Best h F O) : OptA h F O 0 (fun _ => false) := by
  obtain ⟨a1, a2, a3⟩ := a
  have e : ned gd 8 (Frm O 0) = ned gd 8 O := ned_congr 8 (fun q _ => by unfold Frm; simp)
  refine ⟨a1, a2, ⟨Frm O 0, frm_adm a1 0, frm_hal a2, rfl⟩, fun A hA H => ?_⟩
  rw [e]
  exact a3 A hA H
theorem Best.uniq {h : Nat → Nat} {F : Nat → Nat → Bool} {O P : Nat → Bool} (a : Best h F O) (b : Best h F P) : ∀ q, O q = P q := by
  have h1 := a.2.2 P b.1 b.2.1
  have h2 := b.2.2 O a.1 a.2.1
  have h3 := sco_inj (A := O) (B := P) (by omega)
  intro q
  by_cases z : q < 8
  · exact h3 q z
  · cases e : O q with
    | true => have := a.1 q e; omega
    | false =>
      cases e2 : P q with
      | true => have := b.1 q e2; omega
      | false => rfl
