/-! ===== the whole relation, in two memories; from two memories to one ===== -/
def Rim (S T : Sg) : Prop := T 9 0 0 3 = S 3 0 0 3 ∧ (S 3 0 0 3 = 0 ∨ (S 3 0 0 3 = 1 ∧ Rw S T 1 2 ∧ Rr2 S T 1 2 ∧ S 0 1 16 0 ≤ S 0 0 16 0 ∧ S 0 1 0 0 ≤ S 0 0 0 0))
def R2 (S T : Sg) : Prop := Rw S T 0 0 ∧ Rcr S ∧ Rr2 S T 0 0 ∧ Rim S T
def Zs (S : Sg) : Prop := ∀ r k i, zn (S 14 r k i)
theorem Rw.row {S T S2 T2 : Sg} {r w : Int} (h : Rw S T r w) (h0 : ∀ k, S2 0 r k = S 0 r k) (h1 : ∀ l, 0 ≤ l → l < S 0 r 16 0 → S2 1 l 0 = S 1 l 0) (h13 : ∀ k, S2 13 r k = S 13 r k) (h14 : ∀ k, S2 14 r k = S 14 r k) (t5 : ∀ k j, ¬ (35 ≤ k ∧ k ≤ 40) → ¬ (k = 0 ∧ 47 ≤ j) → T2 5 w k j = T 5 w k j) (t6 : T2 6 w = T 6 w) (t7 : T2 7 w = T 7 w) : Rw S2 T2 r w := by
  obtain ⟨g1, g2, g3⟩ := h
  have hb : Bk S S2 r r := by
    unfold Bk
    simp only [h0, h13, h14]
    simp
  have hw : Wk T (fun g r' k i => if g = 8 then T g r' k i else T2 g r' k i) w w := by
    refine ⟨fun i hi => ?_, fun k i _ _ _ _ => ?_, fun k i _ _ _ _ => ?_, fun k i _ _ _ _ => ?_, fun k i _ _ _ _ => ?_, fun k i _ _ _ _ => ?_, fun k i _ _ _ _ => ?_, fun k i _ _ _ _ => ?_, fun k i _ _ _ _ => ?_, fun k i _ _ _ _ => ?_, fun k i _ _ _ _ => ?_, fun k i _ _ _ _ => ?_, fun k i _ _ _ _ => ?_⟩
    · exact t5 0 i (by omega) (by omega)
    · exact t5 k i (by omega) (by omega)
    · exact t5 k i (by omega) (by omega)
    · exact t5 k i (by omega) (by omega)
    · exact t5 k i (by omega) (by omega)
    · exact t5 k i (by omega) (by omega)
    · exact t5 k i (by omega) (by omega)
    · exact t5 k i (by omega) (by omega)
    · exact t5 k i (by omega) (by omega)
    · exact t5 k i (by omega) (by omega)
    · show T2 6 w k i = T 6 w k i
      rw [t6]
    · show T2 7 w k i = T 7 w k i
      rw [t7]
    · rfl
  have c : Rw S2 (fun g r' k i => if g = 8 then T g r' k i else T2 g r' k i) r w := ⟨g1.like hb hw, g2.like hb hw, Rco.like g2 g3 (fun i _ _ => by rw [h0]) (by rw [h0]) hw (fun l a b i _ _ => by rw [h1 l a b])⟩
  exact c.to8 rfl rfl rfl
theorem Rim.keep {S T S2 T2 : Sg} (h : Rim S T) (hl : S 0 0 16 0 ≤ S2 0 0 16 0) (hw : S 0 0 0 0 ≤ S2 0 0 0 0) (h3 : S2 3 0 0 3 = S 3 0 0 3) (h9 : T2 9 0 0 3 = T 9 0 0 3) (h0 : ∀ k, S2 0 1 k = S 0 1 k) (h1 : ∀ l, 0 ≤ l → l < S 0 0 16 0 → S2 1 l 0 = S 1 l 0) (h13 : ∀ k, S2 13 1 k = S 13 1 k) (h14 : ∀ k, S2 14 1 k = S 14 1 k) (t5 : ∀ k, T2 5 2 k = T 5 2 k) (t6 : T2 6 2 = T 6 2) (t7 : T2 7 2 = T 7 2) (t8 : T2 8 2 = T 8 2) (hr : ∀ j, 0 ≤ j → j < S 0 0 0 0 → ∀ q, 0 ≤ q → q < 5 → S2 3 0 1 (5 * j + q) = S 3 0 1 (5 * j + q)) : Rim S2 T2 := by
  obtain ⟨a, b⟩ := h
  refine ⟨by rw [h9, h3, a], ?_⟩
  rw [h3]
  rcases b with b | ⟨b, c, d, e, f⟩
  · exact Or.inl b
  · refine Or.inr ⟨b, c.row h0 (fun l x y => h1 l x (by omega)) h13 h14 (fun k j _ _ => by rw [t5]) t6 t7, ?_, by rw [h0]; omega, by rw [h0]; omega⟩
    intro j q j1 j2 q1 q2
    rw [h0] at j2
    rw [t8, hr j j1 (by omega) q q1 q2]
    exact d j q j1 j2 q1 q2
theorem R2.toT {S T T2 : Sg} (h : R2 S T) (e : ∀ g, ¬ gC g → T2 g = T g) : R2 S T2 := by
  obtain ⟨h1, h2, h3, h4, h5⟩ := h
  have e5 := e 5 (by unfold gC; omega)
  have e6 := e 6 (by unfold gC; omega)
  have e7 := e 7 (by unfold gC; omega)
  have e8 := e 8 (by unfold gC; omega)
  have e9 := e 9 (by unfold gC; omega)
  refine ⟨h1.to8 e5 e6 e7, h2, ?_, by rw [e9]; exact h4, ?_⟩
  · intro j q a b c d
    rw [e8]
    exact h3 j q a b c d
  · rcases h5 with h5 | ⟨b, c, d, f⟩
    · exact Or.inl h5
    · refine Or.inr ⟨b, c.to8 e5 e6 e7, ?_, f⟩
      intro j q a b c d'
      rw [e8]
      exact d j q a b c d'
theorem R2.toS {S S2 T : Sg} (h : R2 S T) (e : ∀ g, gC g → S2 g = S g) : R2 S2 T := by
  obtain ⟨h1, h2, h3, h4⟩ := h
  have e0 := e 0 (by unfold gC; omega)
  have e1 := e 1 (by unfold gC; omega)
  have e3 := e 3 (by unfold gC; omega)
  have e13 := e 13 (by unfold gC; omega)
  have e14 := e 14 (by unfold gC; omega)
  have e20 := e 20 (by unfold gC; omega)
  refine ⟨h1.toS e0 e1 e13 e14, h2.to e20 e3, ?_, ?_⟩
  · unfold Rr2 at h3 ⊢
    rw [e0, e3]
    exact h3
  · refine h4.keep (by rw [e0]; exact Int.le_refl _) (by rw [e0]; exact Int.le_refl _) (by rw [e3]) rfl (fun k => by rw [e0]) (fun l _ _ => by rw [e1]) (fun k => by rw [e13]) (fun k => by rw [e14]) (fun _ => rfl) rfl rfl rfl (fun j _ _ q _ _ => by rw [e3])
/-- from two memories to one: the class goes first, the reference goes on in what it left -/
theorem tw_one {P Q : Sg → Sg → Prop} {fo fm : Sg → Option (Int × Sg)} (hc : ∀ S a S2, fo S = some (a, S2) → ∀ g, ¬ gC g → S2 g = S g) (hm : ∀ T a T2, fm T = some (a, T2) → ∀ g, gC g → T2 g = T g) (hP : ∀ S T T2, P S T → (∀ g, ¬ gC g → T2 g = T g) → P S T2) (hQ : ∀ S S2 T, Q S T → (∀ g, gC g → S2 g = S g) → Q S2 T) (h : ∀ S T, P S T → ∃ (a : Int) (S2 T2 : Sg), fo S = some (a, S2) ∧ fm T = some (a, T2) ∧ Q S2 T2) {S : Sg} (h0 : P S S) : ∃ (a : Int) (S1 S2 : Sg), fo S = some (a, S1) ∧ fm S1 = some (a, S2) ∧ Q S2 S2 := by
  obtain ⟨a, S1, T1, k1, -, -⟩ := h S S h0
  obtain ⟨b, S1', T2, l1, l2, l3⟩ := h S S1 (hP S S S1 h0 (hc S a S1 k1))
  rw [k1] at l1
  injection l1 with l1
  injection l1 with l1 l4
  subst l1 l4
  exact ⟨a, S1, T2, k1, l2, hQ S1 T2 T2 l3 (hm S1 a T2 l2)⟩
def Wwk (g : Nat) (r k i : Int) : Prop := (g = 0 ∧ r = 0 ∧ k ≠ 16) ∨ (g = 3 ∧ k ≠ 0) ∨ g = 20 ∨ g = 4
def Vwk (g : Nat) (r k i : Int) : Prop := (r = 0 ∧ (g = 5 ∨ g = 8 ∨ g = 21)) ∨ (g = 9 ∧ r = 0 ∧ k = 0 ∧ i = 4)
theorem R2.th {S T : Sg} (h : R2 S T) (v : Int) : R2 S (zu T 9 0 0 4 v) := by
  obtain ⟨h1, h2, h3, h4⟩ := h
  refine ⟨h1.to8 ?_ ?_ ?_, h2, ?_, ?_⟩
  · funext r k i; exact if_neg (by omega)
  · funext r k i; exact if_neg (by omega)
  · funext r k i; exact if_neg (by omega)
  · intro j q a b c d
    rw [show zu T 9 0 0 4 v 8 0 q = T 8 0 q from zu_ne (by omega)]
    exact h3 j q a b c d
  · exact h4.keep (Int.le_refl _) (Int.le_refl _) rfl (zu_pl (by decide)) (fun _ => rfl) (fun _ _ _ => rfl) (fun _ => rfl) (fun _ => rfl) (fun k => zu_ne (by omega)) (by funext k; exact zu_ne (by omega)) (by funext k; exact zu_ne (by omega)) (by funext k; exact zu_ne (by omega)) (fun _ _ _ _ _ _ => rfl)
theorem tw_weeks2 {S T : Sg} (x : Int) (h : R2 S T ∧ Zs S) : ∃ (a : Int) (S2 T2 : Sg), zf_O_weeks x S = some (a, S2) ∧ zf_M_weeks x T = some (a, T2) ∧ R2 S2 T2 := by
  obtain ⟨h, hz⟩ := h
  have hT := h.th 0
  have hw0 := hT.1.mc.2.2.2.2.2.2.1
  unfold zf_O_weeks zf_M_weeks
  rw [zlt_v, pf_M_in, zbd_s, hT.1.mc.1]
  generalize zu T 9 0 0 4 0 = U at hT
  by_cases hx : 1 ≤ x ∧ x ≤ 52
  · rw [if_neg (by omega), if_pos hx.2, if_pos hx, if_neg n10, zw_in (x := S 0 0 0 0 + x) (by omega) (by omega)]
    by_cases hy : S 0 0 0 0 + x ≤ 400
    · rw [if_pos hy, if_pos hy]
      obtain ⟨a, S2, T2, k1, k2, k3, k4, k5, k6, k7⟩ := w_weeks (N := x) x.toNat 4096 4096 0 S U (by decide) (by omega) hx.2 (by omega) (by omega) (by omega) hT.1 hT.2.1 hT.2.2.1 (hz 0)
      refine ⟨a, S2, T2, k1, k2, k3, k4, k5, ?_⟩
      have fS : Fm Wwk S S2 := zk_O_weeks_33 (fun g r k i e => by unfold zr_O_weeks at e; unfold Wwk; omega) 4096 _ _ S (Fm.refl _ _) a S2 k1
      have fT : Fm Vwk U T2 := zk_M_weeks_37 (fun g r k i e => by unfold zr_M_weeks at e; unfold Vwk; omega) 4096 _ _ U (Fm.refl _ _) a T2 k2
      exact hT.2.2.2.keep (by rw [fS 0 0 16 0 (by unfold Wwk; omega)]; exact Int.le_refl _) k6 (fS 3 0 0 3 (by unfold Wwk; omega)) (fT 9 0 0 3 (by unfold Vwk; omega)) (fun k => fS.row (fun i => by unfold Wwk; omega)) (fun l _ _ => fS.row (fun i => by unfold Wwk; omega)) (fun k => fS.row (fun i => by unfold Wwk; omega)) (fun k => fS.row (fun i => by unfold Wwk; omega)) (fun k => fT.row (fun i => by unfold Vwk; omega)) (by funext k; exact fT.row (fun i => by unfold Vwk; omega)) (by funext k; exact fT.row (fun i => by unfold Vwk; omega)) (by funext k; exact fT.row (fun i => by unfold Vwk; omega)) (fun j _ b => k7 j b)
    · rw [if_neg hy, if_neg hy]
      exact ⟨-2, S, U, rfl, rfl, hT⟩
  · rw [if_neg (show ¬ (1 ≤ x ∧ x ≤ 52) from hx), if_pos rfl]
    by_cases h1' : x < 1
    · rw [if_pos h1']
      exact ⟨-1, S, U, rfl, rfl, hT⟩
    · rw [if_neg h1', if_neg (by omega)]
      exact ⟨-1, S, U, rfl, rfl, hT⟩
