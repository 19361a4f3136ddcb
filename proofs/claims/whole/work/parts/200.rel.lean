/-! ===== the pure half: what class and reference hold alike ===== -/
theorem zu_at (S : Sg) (g : Nat) (r k i v : Int) : zu S g r k i v g r k i = v := if_pos ⟨rfl, rfl, rfl, rfl⟩
theorem zu_pl {S : Sg} {g : Nat} {r k i v j : Int} (h : j ≠ i) : zu S g r k i v g r k j = S g r k j := if_neg (fun q => h q.2.2.2)
theorem zu_ne {S : Sg} {g g' : Nat} {r k i v r' k' : Int} (h : ¬ (g' = g ∧ r' = r ∧ k' = k)) : zu S g r k i v g' r' k' = S g' r' k' := by
  funext j
  exact if_neg (fun q => h ⟨q.1, q.2.1, q.2.2.1⟩)
theorem zcp_nr {S : Sg} {g g2 g' : Nat} {r k sp r2 k2 dp n r' k' : Int} (h : ¬ (g' = g2 ∧ r' = r2 ∧ k' = k2)) : zcp S g r k sp g2 r2 k2 dp n g' r' k' = S g' r' k' := by
  funext j
  exact if_neg (fun q => h ⟨q.1, q.2.1, q.2.2.1⟩)
/-- none, as the class and as the reference write it -/
def pv (x : Int) : Int := if x < 0 then -2 else x
/-- scalars of an island r and a world w -/
def Rsc (S : Sg) (r w : Int) : Prop :=
  S 5 w 0 0 = S 0 r 0 0 ∧ S 5 w 0 38 = S 0 r 0 1 ∧ S 5 w 0 39 = S 0 r 0 2 ∧ S 5 w 0 40 = S 0 r 0 3 ∧ S 5 w 0 15 = S 0 r 0 4 ∧
  S 0 r 0 5 = S 5 w 31 0 + 3 * S 5 w 31 1 + 9 * S 5 w 31 2 ∧ S 5 w 0 41 = pv (S 0 r 0 6) ∧
  (0 ≤ S 0 r 0 0 ∧ S 0 r 0 0 ≤ 400) ∧ (0 ≤ S 0 r 0 1 ∧ S 0 r 0 1 ≤ 1000000) ∧ (0 ≤ S 0 r 0 4 ∧ S 0 r 0 4 ≤ 500) ∧
  (-1 ≤ S 0 r 0 6 ∧ S 0 r 0 6 ≤ S 0 r 0 0 ∨ S 0 r 0 6 = -1) ∧
  (∀ i, 0 ≤ i → i < 3 → 0 ≤ S 5 w 31 i ∧ S 5 w 31 i ≤ 2) ∧ S 5 w 31 0 ≠ S 5 w 31 1 ∧ S 5 w 31 0 ≠ S 5 w 31 2 ∧ S 5 w 31 1 ≠ S 5 w 31 2 ∧
  (∀ i, 0 ≤ i → i < 4 → S 5 w 30 i = S 0 r 1 i) ∧
  (0 ≤ S 0 r 1 0 ∧ S 0 r 1 0 ≤ 500) ∧ (0 ≤ S 0 r 1 1 ∧ S 0 r 1 1 ≤ 9999) ∧ (0 ≤ S 0 r 1 2 ∧ S 0 r 1 2 ≤ 99) ∧ (1 ≤ S 0 r 1 3 ∧ S 0 r 1 3 ≤ 99)
def Rh1 (S : Sg) (r w h : Int) : Prop :=
  S 5 w 10 h = S 0 r 2 h ∧ S 5 w 11 h = S 0 r 3 h ∧ S 5 w 12 h = S 0 r 4 h ∧ S 5 w 13 h = S 0 r 5 h ∧
  (0 ≤ S 0 r 2 h ∧ S 0 r 2 h ≤ 20) ∧ (0 ≤ S 0 r 3 h ∧ S 0 r 3 h ≤ 200) ∧ (1 ≤ S 0 r 4 h ∧ S 0 r 4 h ≤ 9) ∧ (0 ≤ S 0 r 5 h ∧ S 0 r 5 h ≤ 1)
def Rho (S : Sg) (r w : Int) : Prop := ∀ h, 0 ≤ h → h < 12 → Rh1 S r w h
def Rp1 (S : Sg) (r w i : Int) : Prop :=
    S 5 w 1 i = S 0 r 7 i ∧ S 5 w 2 i = S 0 r 8 i ∧ S 5 w 3 i = pv (S 0 r 9 i) ∧ S 5 w 4 i = S 0 r 10 i ∧ S 5 w 5 i = S 0 r 11 i ∧ S 5 w 6 i = S 0 r 12 i ∧ S 5 w 7 i = S 0 r 13 i ∧ S 5 w 8 i = pv (S 0 r 14 i) ∧ S 5 w 9 i = S 0 r 15 i ∧
    (-5000 ≤ S 0 r 7 i ∧ S 0 r 7 i ≤ S 0 r 0 0) ∧ (0 ≤ S 0 r 8 i ∧ S 0 r 8 i < 12) ∧ (-1 ≤ S 0 r 9 i ∧ S 0 r 9 i < i) ∧ (0 ≤ S 0 r 10 i ∧ S 0 r 10 i < 256) ∧ (0 ≤ S 0 r 11 i ∧ S 0 r 11 i ≤ 2) ∧ (-1 ≤ S 0 r 12 i ∧ S 0 r 12 i ≤ 400) ∧ (0 ≤ S 0 r 13 i ∧ S 0 r 13 i ≤ 99) ∧ (-1 ≤ S 0 r 14 i ∧ S 0 r 14 i < 8) ∧ (0 ≤ S 0 r 15 i ∧ S 0 r 15 i ≤ 1)
def Rpp (S : Sg) (r w : Int) : Prop :=
  S 5 w 0 1 = S 0 r 6 0 ∧ (0 ≤ S 0 r 6 0 ∧ S 0 r 6 0 ≤ 40) ∧ ∀ i, 0 ≤ i → i < S 0 r 6 0 → Rp1 S r w i
def Rq1 (S : Sg) (r w i : Int) : Prop :=
    S 5 w 21 i = S 0 r 27 i ∧ S 5 w 22 i = S 0 r 28 i ∧ S 5 w 23 i = S 0 r 29 i ∧ S 5 w 24 i = S 0 r 30 i ∧
    (0 ≤ S 0 r 27 i ∧ S 0 r 27 i < 8) ∧ (1 ≤ S 0 r 28 i ∧ S 0 r 28 i ≤ 3) ∧ (0 ≤ S 0 r 29 i ∧ S 0 r 29 i ≤ 3) ∧ (0 ≤ S 0 r 30 i ∧ S 0 r 30 i ≤ 1)
def Rpo (S : Sg) (r w : Int) : Prop :=
  S 5 w 0 25 = S 0 r 26 0 ∧ (0 ≤ S 0 r 26 0 ∧ S 0 r 26 0 ≤ 8) ∧ ∀ i, 0 ≤ i → i < S 0 r 26 0 → Rq1 S r w i
def Rg1 (S : Sg) (r w g : Int) : Prop :=
  S 5 w 25 g = S 0 r 32 g ∧ S 5 w 26 g = S 0 r 33 g ∧ S 5 w 27 g = S 0 r 34 g ∧ (0 ≤ S 0 r 32 g ∧ S 0 r 32 g ≤ 9999) ∧ (0 ≤ S 0 r 33 g ∧ S 0 r 33 g ≤ 9) ∧ (0 ≤ S 0 r 34 g ∧ S 0 r 34 g ≤ 99) ∧ (g = 0 → S 0 r 34 g = 0)
def Ro1 (S : Sg) (r w i : Int) : Prop :=
  S 5 w 28 i = S 0 r 35 i ∧ S 5 w 29 i = S 0 r 36 i ∧ (0 ≤ S 0 r 35 i ∧ S 0 r 35 i < 4) ∧ (0 ≤ S 0 r 36 i ∧ S 0 r 36 i ≤ 500)
def Rst (S : Sg) (r w : Int) : Prop :=
  (∀ g, 0 ≤ g → g < 4 → Rg1 S r w g) ∧
  S 5 w 0 33 = S 0 r 31 3 ∧ (0 ≤ S 0 r 31 3 ∧ S 0 r 31 3 ≤ 30) ∧ ∀ i, 0 ≤ i → i < S 0 r 31 3 → Ro1 S r w i
def Rsk (S : Sg) (r w : Int) : Prop := ∀ k, 0 ≤ k → k < 2 →
  S 5 w 32 k = S 13 r k 0 ∧ S 5 w 33 k = S 13 r k 1 ∧ (0 ≤ S 13 r k 0 ∧ S 13 r k 0 ≤ 2) ∧ (0 ≤ S 13 r k 1 ∧ S 13 r k 1 ≤ 120) ∧ ∀ i, 0 ≤ i → i < S 13 r k 1 → S 7 w k i = S 14 r k i
/-- the other tables stay: what a relation reads is as it was -/
theorem Rsc.to {S S2 : Sg} {r w : Int} (h : Rsc S r w) (h1 : S2 0 r 0 = S 0 r 0) (h2 : S2 0 r 1 = S 0 r 1) (h3 : S2 5 w 30 = S 5 w 30) (h4 : S2 5 w 31 = S 5 w 31) (h5 : ∀ i, i = 0 ∨ i = 15 ∨ (38 ≤ i ∧ i ≤ 41) → S2 5 w 0 i = S 5 w 0 i) : Rsc S2 r w := by
  unfold Rsc at *
  rw [h1, h2, h3, h4, h5 0 (by omega), h5 15 (by omega), h5 38 (by omega), h5 39 (by omega), h5 40 (by omega), h5 41 (by omega)]
  exact h
theorem Rho.to {S S2 : Sg} {r w : Int} (h : Rho S r w) (h1 : ∀ k, 2 ≤ k → k ≤ 5 → S2 0 r k = S 0 r k) (h2 : ∀ k, 10 ≤ k → k ≤ 13 → S2 5 w k = S 5 w k) : Rho S2 r w := by
  unfold Rho Rh1 at *
  rw [h1 2 (by omega) (by omega), h1 3 (by omega) (by omega), h1 4 (by omega) (by omega), h1 5 (by omega) (by omega), h2 10 (by omega) (by omega), h2 11 (by omega) (by omega), h2 12 (by omega) (by omega), h2 13 (by omega) (by omega)]
  exact h
theorem Rpp.to {S S2 : Sg} {r w : Int} (h : Rpp S r w) (h0 : S2 0 r 0 0 = S 0 r 0 0) (h1 : ∀ k, 6 ≤ k → k ≤ 15 → S2 0 r k = S 0 r k) (h2 : ∀ k, 1 ≤ k → k ≤ 9 → S2 5 w k = S 5 w k) (h3 : S2 5 w 0 1 = S 5 w 0 1) : Rpp S2 r w := by
  unfold Rpp Rp1 at *
  rw [h0, h1 6 (by omega) (by omega), h1 7 (by omega) (by omega), h1 8 (by omega) (by omega), h1 9 (by omega) (by omega), h1 10 (by omega) (by omega), h1 11 (by omega) (by omega), h1 12 (by omega) (by omega), h1 13 (by omega) (by omega), h1 14 (by omega) (by omega), h1 15 (by omega) (by omega), h2 1 (by omega) (by omega), h2 2 (by omega) (by omega), h2 3 (by omega) (by omega), h2 4 (by omega) (by omega), h2 5 (by omega) (by omega), h2 6 (by omega) (by omega), h2 7 (by omega) (by omega), h2 8 (by omega) (by omega), h2 9 (by omega) (by omega), h3]
  exact h
theorem Rpo.to {S S2 : Sg} {r w : Int} (h : Rpo S r w) (h1 : ∀ k, 26 ≤ k → k ≤ 30 → S2 0 r k = S 0 r k) (h2 : ∀ k, 21 ≤ k → k ≤ 24 → S2 5 w k = S 5 w k) (h3 : S2 5 w 0 25 = S 5 w 0 25) : Rpo S2 r w := by
  unfold Rpo Rq1 at *
  rw [h1 26 (by omega) (by omega), h1 27 (by omega) (by omega), h1 28 (by omega) (by omega), h1 29 (by omega) (by omega), h1 30 (by omega) (by omega), h2 21 (by omega) (by omega), h2 22 (by omega) (by omega), h2 23 (by omega) (by omega), h2 24 (by omega) (by omega), h3]
  exact h
theorem Rst.to {S S2 : Sg} {r w : Int} (h : Rst S r w) (h1 : ∀ k, 31 ≤ k → k ≤ 36 → S2 0 r k = S 0 r k) (h2 : ∀ k, 25 ≤ k → k ≤ 29 → S2 5 w k = S 5 w k) (h3 : S2 5 w 0 33 = S 5 w 0 33) : Rst S2 r w := by
  unfold Rst Rg1 Ro1 at *
  rw [h1 31 (by omega) (by omega), h1 32 (by omega) (by omega), h1 33 (by omega) (by omega), h1 34 (by omega) (by omega), h1 35 (by omega) (by omega), h1 36 (by omega) (by omega), h2 25 (by omega) (by omega), h2 26 (by omega) (by omega), h2 27 (by omega) (by omega), h2 28 (by omega) (by omega), h2 29 (by omega) (by omega), h3]
  exact h
theorem Rsk.to {S S2 : Sg} {r w : Int} (h : Rsk S r w) (h1 : ∀ k, 0 ≤ k → k < 2 → S2 13 r k = S 13 r k) (h2 : ∀ k, 0 ≤ k → k < 2 → S2 14 r k = S 14 r k) (h3 : ∀ k, 0 ≤ k → k < 2 → S2 7 w k = S 7 w k) (h4 : S2 5 w 32 = S 5 w 32) (h5 : S2 5 w 33 = S 5 w 33) : Rsk S2 r w := by
  intro k hk hk2
  rw [h1 k hk hk2, h2 k hk hk2, h3 k hk hk2, h4, h5]
  exact h k hk hk2
/-- an island and a world are alike, but for laws and records -/
def Ria (S : Sg) (r w : Int) : Prop := Rsc S r w ∧ Rho S r w ∧ Rpp S r w ∧ Rpo S r w ∧ Rst S r w ∧ Rsk S r w
/-- all rows but some are as they were -/
def Fr (T : Nat → Int → Int → Prop) (S S2 : Sg) : Prop := ∀ (g : Nat) (r k : Int), ¬ T g r k → S2 g r k = S g r k
def T0 (g : Nat) (r k : Int) : Prop := g = 9 ∧ r = 0 ∧ k = 0
def Tp (g : Nat) (r k : Int) : Prop := T0 g r k ∨ (g = 0 ∧ r = 0 ∧ 7 ≤ k ∧ k ≤ 15) ∨ (g = 5 ∧ r = 0 ∧ 1 ≤ k ∧ k ≤ 9)
def Th (g : Nat) (r k : Int) : Prop := T0 g r k ∨ (g = 0 ∧ r = 0 ∧ 2 ≤ k ∧ k ≤ 5) ∨ (g = 5 ∧ r = 0 ∧ 10 ≤ k ∧ k ≤ 13)
theorem Ria.none {S S2 : Sg} (h : Ria S 0 0) (hf : Fr T0 S S2) : Ria S2 0 0 := by
  obtain ⟨h1, h2, h3, h4, h5, h6⟩ := h
  have e : ∀ (g : Nat) (r k : Int), g ≠ 9 → S2 g r k = S g r k := fun g r k hg => hf g r k (fun q => hg q.1)
  refine ⟨h1.to (e _ _ _ (by decide)) (e _ _ _ (by decide)) (e _ _ _ (by decide)) (e _ _ _ (by decide)) (fun i _ => by rw [e _ _ _ (by decide)]), h2.to (fun k _ _ => e _ _ _ (by decide)) (fun k _ _ => e _ _ _ (by decide)), h3.to (by rw [e _ _ _ (by decide)]) (fun k _ _ => e _ _ _ (by decide)) (fun k _ _ => e _ _ _ (by decide)) (by rw [e _ _ _ (by decide)]), h4.to (fun k _ _ => e _ _ _ (by decide)) (fun k _ _ => e _ _ _ (by decide)) (by rw [e _ _ _ (by decide)]), h5.to (fun k _ _ => e _ _ _ (by decide)) (fun k _ _ => e _ _ _ (by decide)) (by rw [e _ _ _ (by decide)]), h6.to (fun k _ _ => e _ _ _ (by decide)) (fun k _ _ => e _ _ _ (by decide)) (fun k _ _ => e _ _ _ (by decide)) (e _ _ _ (by decide)) (e _ _ _ (by decide))⟩
theorem Ria.person {S S2 : Sg} (h : Ria S 0 0) (x : Int) (hf : Fr Tp S S2) (hi : ∀ i k, i ≠ x → S2 0 0 k i = S 0 0 k i) (hm : ∀ i k, i ≠ x → S2 5 0 k i = S 5 0 k i) (hx : Rp1 S2 0 0 x) : Ria S2 0 0 := by
  obtain ⟨h1, h2, ⟨h3, h3b, h3c⟩, h4, h5, h6⟩ := h
  have e : ∀ (g : Nat) (r k : Int), ¬ Tp g r k → S2 g r k = S g r k := hf
  have e0 : ∀ k, k < 7 ∨ 15 < k → S2 0 0 k = S 0 0 k := fun k hk => e _ _ _ (by unfold Tp T0; omega)
  have e5 : ∀ k, k < 1 ∨ 9 < k → S2 5 0 k = S 5 0 k := fun k hk => e _ _ _ (by unfold Tp T0; omega)
  have eg : ∀ (g : Nat) (r k : Int), g ≠ 0 → g ≠ 5 → g ≠ 9 → S2 g r k = S g r k := fun g r k a b c => e _ _ _ (by unfold Tp T0; omega)
  refine ⟨h1.to (e0 _ (by omega)) (e0 _ (by omega)) (e5 _ (by omega)) (e5 _ (by omega)) (fun i _ => by rw [e5 0 (by omega)]), h2.to (fun k _ _ => e0 _ (by omega)) (fun k _ _ => e5 _ (by omega)), ⟨?_, ?_, ?_⟩, h4.to (fun k _ _ => e0 _ (by omega)) (fun k _ _ => e5 _ (by omega)) (by rw [e5 0 (by omega)]), h5.to (fun k _ _ => e0 _ (by omega)) (fun k _ _ => e5 _ (by omega)) (by rw [e5 0 (by omega)]), h6.to (fun k _ _ => eg _ _ _ (by decide) (by decide) (by decide)) (fun k _ _ => eg _ _ _ (by decide) (by decide) (by decide)) (fun k _ _ => eg _ _ _ (by decide) (by decide) (by decide)) (e5 _ (by omega)) (e5 _ (by omega))⟩
  · rw [e5 0 (by omega), e0 6 (by omega)]; exact h3
  · rw [e0 6 (by omega)]; exact h3b
  · intro i a b
    rw [e0 6 (by omega)] at b
    by_cases q : i = x
    · rw [q]; exact hx
    · have := h3c i a b
      unfold Rp1 at this ⊢
      rw [hm i 1 q, hm i 2 q, hm i 3 q, hm i 4 q, hm i 5 q, hm i 6 q, hm i 7 q, hm i 8 q, hm i 9 q, hi i 7 q, hi i 8 q, hi i 9 q, hi i 10 q, hi i 11 q, hi i 12 q, hi i 13 q, hi i 14 q, hi i 15 q, e0 0 (by omega)]
      exact this
theorem Ria.house {S S2 : Sg} (h : Ria S 0 0) (x : Int) (hf : Fr Th S S2) (hi : ∀ i k, i ≠ x → S2 0 0 k i = S 0 0 k i) (hm : ∀ i k, i ≠ x → S2 5 0 k i = S 5 0 k i) (hx : Rh1 S2 0 0 x) : Ria S2 0 0 := by
  obtain ⟨h1, h2, h3, h4, h5, h6⟩ := h
  have e : ∀ (g : Nat) (r k : Int), ¬ Th g r k → S2 g r k = S g r k := hf
  have e0 : ∀ k, k < 2 ∨ 5 < k → S2 0 0 k = S 0 0 k := fun k hk => e _ _ _ (by unfold Th T0; omega)
  have e5 : ∀ k, k < 10 ∨ 13 < k → S2 5 0 k = S 5 0 k := fun k hk => e _ _ _ (by unfold Th T0; omega)
  have eg : ∀ (g : Nat) (r k : Int), g ≠ 0 → g ≠ 5 → g ≠ 9 → S2 g r k = S g r k := fun g r k a b c => e _ _ _ (by unfold Th T0; omega)
  refine ⟨h1.to (e0 _ (by omega)) (e0 _ (by omega)) (e5 _ (by omega)) (e5 _ (by omega)) (fun i _ => by rw [e5 0 (by omega)]), ?_, h3.to (by rw [e0 0 (by omega)]) (fun k _ _ => e0 _ (by omega)) (fun k _ _ => e5 _ (by omega)) (by rw [e5 0 (by omega)]), h4.to (fun k _ _ => e0 _ (by omega)) (fun k _ _ => e5 _ (by omega)) (by rw [e5 0 (by omega)]), h5.to (fun k _ _ => e0 _ (by omega)) (fun k _ _ => e5 _ (by omega)) (by rw [e5 0 (by omega)]), h6.to (fun k _ _ => eg _ _ _ (by decide) (by decide) (by decide)) (fun k _ _ => eg _ _ _ (by decide) (by decide) (by decide)) (fun k _ _ => eg _ _ _ (by decide) (by decide) (by decide)) (e5 _ (by omega)) (e5 _ (by omega))⟩
  intro i a b
  by_cases q : i = x
  · rw [q]; exact hx
  · have := h2 i a b
    unfold Rh1 at this ⊢
    rw [hm i 10 q, hm i 11 q, hm i 12 q, hm i 13 q, hi i 2 q, hi i 3 q, hi i 4 q, hi i 5 q]
    exact this
