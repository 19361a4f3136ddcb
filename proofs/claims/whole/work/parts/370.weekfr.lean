/-! ===== a week: what its steps change, class on S, reference on T ===== -/
/-- the class's cells that a week changes, but for the crews -/
def AK (r : Int) (g : Nat) (r' k : Int) : Prop := (g = 0 ∧ r' = r ∧ (k = 0 ∨ k = 2 ∨ k = 3 ∨ k = 5 ∨ k = 11 ∨ k = 13 ∨ k = 14 ∨ k = 15 ∨ k = 32 ∨ k = 36)) ∨ (g = 3 ∧ r' = 0 ∧ (7 ≤ k ∧ k ≤ 9 ∨ 15 ≤ k ∧ k ≤ 20))
def AG (r : Int) (S S2 : Sg) : Prop := (∀ (g : Nat) (r' k : Int), ¬ AK r g r' k → S2 g r' k = S g r' k) ∧ S2 0 r 0 5 = S 0 r 0 5 ∧ S2 0 r 0 0 = S 0 r 0 0
/-- the reference's cells that a week changes, but for the crews -/
def BK (w : Int) (g : Nat) (r' k j : Int) : Prop := g = 5 ∧ r' = w ∧ (k = 5 ∨ k = 7 ∨ k = 8 ∨ k = 9 ∨ k = 10 ∨ k = 11 ∨ k = 13 ∨ k = 25 ∨ k = 29 ∨ k = 34 ∨ k = 35 ∨ k = 39 ∨ k = 40 ∨ k = 0 ∧ (j = 0 ∨ j = 15 ∨ (38 ≤ j ∧ j ≤ 41) ∨ (47 ≤ j ∧ j ≤ 49)))
def BG (w : Int) (T T2 : Sg) : Prop := ∀ (g : Nat) (r' k j : Int), ¬ BK w g r' k j → T2 g r' k j = T g r' k j
theorem AG.refl (r : Int) (S : Sg) : AG r S S := ⟨fun _ _ _ _ => rfl, rfl, rfl⟩
theorem AG.trans {r : Int} {S S2 S3 : Sg} (h : AG r S S2) (h2 : AG r S2 S3) : AG r S S3 := ⟨fun g r' k q => (h2.1 g r' k q).trans (h.1 g r' k q), h2.2.1.trans h.2.1, h2.2.2.trans h.2.2⟩
theorem BG.refl (w : Int) (T : Sg) : BG w T T := fun _ _ _ _ _ => rfl
theorem BG.trans {w : Int} {T T2 T3 : Sg} (h : BG w T T2) (h2 : BG w T2 T3) : BG w T T3 := fun g r' k j q => (h2 g r' k j q).trans (h g r' k j q)
theorem AG.put {r : Int} {S : Sg} {g : Nat} {r' k j v : Int} (h : AK r g r' k) (h2 : ¬ (g = 0 ∧ k = 0 ∧ (j = 5 ∨ j = 0))) : AG r S (zu S g r' k j v) := by
  refine ⟨fun g2 r2 k2 q => zu_ne (fun e => q ?_), if_neg (fun e => h2 ?_), if_neg (fun e => h2 ?_)⟩
  · rw [e.1, e.2.1, e.2.2]; exact h
  · exact ⟨e.1.symm, e.2.2.1.symm, Or.inl e.2.2.2.symm⟩
  · exact ⟨e.1.symm, e.2.2.1.symm, Or.inr e.2.2.2.symm⟩
theorem BG.put {w : Int} {T : Sg} {g : Nat} {r' k j v : Int} (h : BK w g r' k j) : BG w T (zu T g r' k j v) := by
  intro g2 r2 k2 j2 q
  refine if_neg (fun e => q ?_)
  rw [e.1, e.2.1, e.2.2.1, e.2.2.2]
  exact h
theorem JF.ag {r : Int} {S S2 : Sg} (h : JF S S2) : AG r S S2 := ⟨fun g r' k q => h g r' k (fun e => q (Or.inr (by omega))), by rw [h 0 r 0 (by omega)], by rw [h 0 r 0 (by omega)]⟩
theorem WF.bg {w : Int} {T T2 : Sg} (h : WF w T T2) : BG w T T2 := fun g r' k j q => h g r' k j (fun e => q (by unfold BK; omega))
theorem AG.rcr {r : Int} {S S2 : Sg} (h : AG r S S2) (hc : Rcr S) : Rcr S2 := by
  unfold Rcr at *
  rw [h.1 20 0 2 (by unfold AK; omega), h.1 20 0 0 (by unfold AK; omega), h.1 3 0 12 (by unfold AK; omega), h.1 3 0 10 (by unfold AK; omega)]
  exact hc
def Mc (S T : Sg) (r w : Int) : Prop := T 5 w 0 0 = S 0 r 0 0 ∧ T 5 w 0 38 = S 0 r 0 1 ∧ T 5 w 0 39 = S 0 r 0 2 ∧ T 5 w 0 40 = S 0 r 0 3 ∧ T 5 w 0 15 = S 0 r 0 4 ∧ T 5 w 0 41 = pv (S 0 r 0 6) ∧ (0 ≤ S 0 r 0 0 ∧ S 0 r 0 0 ≤ 400) ∧ (0 ≤ S 0 r 0 1 ∧ S 0 r 0 1 ≤ 1000000) ∧ (0 ≤ S 0 r 0 4 ∧ S 0 r 0 4 ≤ 500) ∧ (-1 ≤ S 0 r 0 6 ∧ S 0 r 0 6 ≤ S 0 r 0 0 ∨ S 0 r 0 6 = -1)
def Mp (S T : Sg) (r w n : Int) : Prop := ∀ i, 0 ≤ i → i < n → T 5 w 5 i = S 0 r 11 i ∧ T 5 w 7 i = S 0 r 13 i ∧ T 5 w 8 i = pv (S 0 r 14 i) ∧ T 5 w 9 i = S 0 r 15 i ∧ (0 ≤ S 0 r 11 i ∧ S 0 r 11 i ≤ 2) ∧ (0 ≤ S 0 r 13 i ∧ S 0 r 13 i ≤ 99) ∧ (-1 ≤ S 0 r 14 i ∧ S 0 r 14 i < 8) ∧ (0 ≤ S 0 r 15 i ∧ S 0 r 15 i ≤ 1)
def Mh (S T : Sg) (r w : Int) : Prop := ∀ h, 0 ≤ h → h < 12 → T 5 w 10 h = S 0 r 2 h ∧ T 5 w 11 h = S 0 r 3 h ∧ T 5 w 13 h = S 0 r 5 h ∧ (0 ≤ S 0 r 2 h ∧ S 0 r 2 h ≤ 20) ∧ (0 ≤ S 0 r 3 h ∧ S 0 r 3 h ≤ 200) ∧ (0 ≤ S 0 r 5 h ∧ S 0 r 5 h ≤ 1)
def Ms (S T : Sg) (r w no : Int) : Prop := (∀ g, 0 ≤ g → g < 4 → T 5 w 25 g = S 0 r 32 g ∧ (0 ≤ S 0 r 32 g ∧ S 0 r 32 g ≤ 9999)) ∧ ∀ i, 0 ≤ i → i < no → T 5 w 29 i = S 0 r 36 i ∧ (0 ≤ S 0 r 36 i ∧ S 0 r 36 i ≤ 500)
theorem Rw.mc {S T : Sg} {r w : Int} (h : Rw S T r w) : Mc S T r w := by
  obtain ⟨c1, c2, c3, c4, c5, c6, c7, c8, c9, c10, c11, -⟩ := h.1.1
  exact ⟨c1, c2, c3, c4, c5, c7, c8, c9, c10, c11⟩
theorem Rw.mp {S T : Sg} {r w : Int} (h : Rw S T r w) : Mp S T r w (S 0 r 6 0) := by
  intro i a b
  obtain ⟨c1, c2, c3, c4, c5, c6, c7, c8, c9, c10, c11, c12, c13, c14, c15, c16, c17, c18⟩ := h.1.2.2.1.2.2 i a b
  exact ⟨c5, c7, c8, c9, c14, c16, c17, c18⟩
theorem Rw.mh {S T : Sg} {r w : Int} (h : Rw S T r w) : Mh S T r w := by
  intro i a b
  obtain ⟨c1, c2, c3, c4, c5, c6, c7, c8⟩ := h.1.2.1 i a b
  exact ⟨c1, c2, c4, c5, c6, c8⟩
theorem Rw.ms {S T : Sg} {r w : Int} (h : Rw S T r w) : Ms S T r w (S 0 r 31 3) := by
  refine ⟨fun g a b => ?_, fun i a b => ?_⟩
  · obtain ⟨c1, c2, c3, c4, -⟩ := h.1.2.2.2.2.1.1 g a b
    exact ⟨c1, c4⟩
  · obtain ⟨c1, c2, c3, c4⟩ := h.1.2.2.2.2.1.2.2.2 i a b
    exact ⟨c2, c4⟩
/-- a step of a week keeps the relation -/
theorem Rw.week {S T S2 T2 : Sg} {r w : Int} (h : Rw S T r w) (ea : ∀ (g : Nat) (r' k : Int), ¬ AK r g r' k → S2 g r' k = S g r' k) (ea5 : S2 0 r 0 5 = S 0 r 0 5) (hb : BG w T T2) (hw : S 0 r 0 0 ≤ S2 0 r 0 0) (hc : Mc S2 T2 r w) (hh : Mh S2 T2 r w) (hp : Mp S2 T2 r w (S 0 r 6 0)) (hs : Ms S2 T2 r w (S 0 r 31 3)) : Rw S2 T2 r w := by
  obtain ⟨⟨h1, h2, h3, h4, h5, h6⟩, h7, h8⟩ := h
  have e0 : ∀ k : Int, ¬ (k = 0 ∨ k = 2 ∨ k = 3 ∨ k = 5 ∨ k = 11 ∨ k = 13 ∨ k = 14 ∨ k = 15 ∨ k = 32 ∨ k = 36) → S2 0 r k = S 0 r k := fun k q => ea 0 r k (by unfold AK; omega)
  have eb : ∀ (k : Int), (k = 1 ∨ k = 2 ∨ k = 3 ∨ k = 4 ∨ k = 6 ∨ k = 12 ∨ (14 ≤ k ∧ k ≤ 24) ∨ k = 26 ∨ k = 27 ∨ k = 28 ∨ (30 ≤ k ∧ k ≤ 33)) → T2 5 w k = T 5 w k := fun k q => by
    funext j
    exact hb 5 w k j (by unfold BK; omega)
  have e50 : ∀ j : Int, (j = 1 ∨ j = 16 ∨ j = 25 ∨ j = 33) → T2 5 w 0 j = T 5 w 0 j := fun j q => hb 5 w 0 j (by unfold BK; omega)
  have eT : ∀ g : Nat, g ≠ 5 → T2 g = T g := fun g q => by
    funext r' k j
    exact hb g r' k j (by unfold BK; omega)
  have eS : ∀ g : Nat, g ≠ 0 → g ≠ 3 → S2 g = S g := fun g q q2 => by
    funext r' k
    exact ea g r' k (by unfold AK; omega)
  refine ⟨⟨?_, ?_, ?_, ?_, ?_, ?_⟩, ?_, ?_⟩
  · obtain ⟨c1, c2, c3, c4, c5, c6, c7, c8, c9, c10, c11, c12, c13, c14, c15, c16, c17⟩ := h1
    obtain ⟨d1, d2, d3, d4, d5, d6, d7, d8, d9, d10⟩ := hc
    unfold Rsc2
    rw [eb 31 (by omega), eb 30 (by omega), e0 1 (by omega), ea5]
    exact ⟨d1, d2, d3, d4, d5, c6, d6, d7, d8, d9, d10, c12, c13, c14, c15, c16, c17⟩
  · intro i a b
    obtain ⟨c1, c2, c3, c4, c5, c6, c7, c8⟩ := h2 i a b
    obtain ⟨d1, d2, d3, d4, d5, d6⟩ := hh i a b
    unfold Rh12
    rw [eb 12 (by omega), e0 4 (by omega)]
    exact ⟨d1, d2, c3, d3, d4, d5, c7, d6⟩
  · refine ⟨by rw [e50 1 (by omega), e0 6 (by omega)]; exact h3.1, by rw [e0 6 (by omega)]; exact h3.2.1, fun i a b => ?_⟩
    rw [e0 6 (by omega)] at b
    obtain ⟨c1, c2, c3, c4, c5, c6, c7, c8, c9, c10, c11, c12, c13, c14, c15, c16, c17, c18⟩ := h3.2.2 i a b
    obtain ⟨d1, d2, d3, d4, d5, d6, d7, d8⟩ := hp i a b
    unfold Rp12
    rw [eb 1 (by omega), eb 2 (by omega), eb 3 (by omega), eb 4 (by omega), eb 6 (by omega), e0 7 (by omega), e0 8 (by omega), e0 9 (by omega), e0 10 (by omega), e0 12 (by omega)]
    exact ⟨c1, c2, c3, c4, d1, c6, d2, d3, d4, ⟨c10.1, Int.le_trans c10.2 hw⟩, c11, c12, c13, d5, c15, d6, d7, d8⟩
  · refine ⟨by rw [e50 25 (by omega), e0 26 (by omega)]; exact h4.1, by rw [e0 26 (by omega)]; exact h4.2.1, fun i a b => ?_⟩
    rw [e0 26 (by omega)] at b
    have c := h4.2.2 i a b
    unfold Rq12 at c ⊢
    rw [eb 21 (by omega), eb 22 (by omega), eb 23 (by omega), eb 24 (by omega), e0 27 (by omega), e0 28 (by omega), e0 29 (by omega), e0 30 (by omega)]
    exact c
  · refine ⟨fun g a b => ?_, by rw [e50 33 (by omega), e0 31 (by omega)]; exact h5.2.1, by rw [e0 31 (by omega)]; exact h5.2.2.1, fun i a b => ?_⟩
    · obtain ⟨c1, c2, c3, c4, c5, c6, c7⟩ := h5.1 g a b
      have d := hs.1 g a b
      unfold Rg12
      rw [eb 26 (by omega), eb 27 (by omega), e0 33 (by omega), e0 34 (by omega)]
      exact ⟨d.1, c2, c3, d.2, c5, c6, c7⟩
    · rw [e0 31 (by omega)] at b
      obtain ⟨c1, c2, c3, c4⟩ := h5.2.2.2 i a b
      have d := hs.2 i a b
      unfold Ro12
      rw [eb 28 (by omega), e0 35 (by omega)]
      exact ⟨c1, d.1, c3, d.2⟩
  · intro k a b
    have c := h6 k a b
    rw [eb 32 (by omega), eb 33 (by omega), eS 13 (by decide) (by decide), eS 14 (by decide) (by decide), eT 7 (by decide)]
    exact c
  · exact h7.to (fun k a b => e0 k (by omega)) (fun k a b => eb k (by omega)) (e50 16 (by omega)) (eT 6 (by decide))
  · intro l a b
    rw [e0 16 (by omega)] at b
    obtain ⟨L, e, c1, c2, c3, c4, c5, c6, c7⟩ := h8 l a b
    refine ⟨L, e, c1, ?_, c3, ?_, ?_, ?_, c7⟩
    · rw [eb 14 (by omega)]; exact c2
    · rw [eT 6 (by decide)]; exact c4
    · rw [e0 25 (by omega)]; exact c5
    · rw [eS 1 (by decide) (by decide)]; exact c6
theorem Rw.rk {S T : Sg} {r w k : Int} (h : Rw S T r w) (a : 0 ≤ k) (b : k < 2) : Rk2 S T r w k := h.1.2.2.2.2.2 k a b
/-- clauses that a step doesn't touch -/
theorem Mc.to {S T S2 T2 : Sg} {r w : Int} (h : Mc S T r w) (h1 : S2 0 r 0 = S 0 r 0) (h2 : T2 5 w 0 = T 5 w 0) : Mc S2 T2 r w := by
  unfold Mc at *
  rw [h1, h2]
  exact h
theorem Mp.to {S T S2 T2 : Sg} {r w n : Int} (h : Mp S T r w n) (h1 : S2 0 r 11 = S 0 r 11) (h2 : S2 0 r 13 = S 0 r 13) (h3 : S2 0 r 14 = S 0 r 14) (h4 : S2 0 r 15 = S 0 r 15) (h5 : T2 5 w 5 = T 5 w 5) (h6 : T2 5 w 7 = T 5 w 7) (h7 : T2 5 w 8 = T 5 w 8) (h8 : T2 5 w 9 = T 5 w 9) : Mp S2 T2 r w n := by
  unfold Mp at *
  rw [h1, h2, h3, h4, h5, h6, h7, h8]
  exact h
theorem Mh.to {S T S2 T2 : Sg} {r w : Int} (h : Mh S T r w) (h1 : S2 0 r 2 = S 0 r 2) (h2 : S2 0 r 3 = S 0 r 3) (h3 : S2 0 r 5 = S 0 r 5) (h4 : T2 5 w 10 = T 5 w 10) (h5 : T2 5 w 11 = T 5 w 11) (h6 : T2 5 w 13 = T 5 w 13) : Mh S2 T2 r w := by
  unfold Mh at *
  rw [h1, h2, h3, h4, h5, h6]
  exact h
theorem Ms.to {S T S2 T2 : Sg} {r w n : Int} (h : Ms S T r w n) (h1 : S2 0 r 32 = S 0 r 32) (h2 : S2 0 r 36 = S 0 r 36) (h3 : T2 5 w 25 = T 5 w 25) (h4 : T2 5 w 29 = T 5 w 29) : Ms S2 T2 r w n := by
  unfold Ms at *
  rw [h1, h2, h3, h4]
  exact h
/-- scratch cells may change: nothing that is read does -/
theorem Rw.scr {S T S2 T2 : Sg} {r w : Int} (h : Rw S T r w) (ha : ∀ (g : Nat) (r' k : Int), ¬ (g = 3 ∧ r' = 0 ∧ (7 ≤ k ∧ k ≤ 9 ∨ 15 ≤ k ∧ k ≤ 20)) → S2 g r' k = S g r' k) (hb : ∀ (g : Nat) (r' k j : Int), ¬ (g = 5 ∧ r' = w ∧ (k = 34 ∨ k = 35 ∨ k = 39 ∨ k = 40 ∨ k = 0 ∧ 47 ≤ j ∧ j ≤ 49)) → T2 g r' k j = T g r' k j) : Rw S2 T2 r w := by
  have eS : ∀ g : Nat, g ≠ 3 → S2 g = S g := fun g q => by
    funext r' k
    exact ha g r' k (by omega)
  refine (h.toS (eS 0 (by decide)) (eS 1 (by decide)) (eS 13 (by decide)) (eS 14 (by decide))).toT (Wk.eq ?_ ?_ ?_ ?_ ?_)
  · intro i hi; exact hb 5 w 0 i (by omega)
  · intro k h1 h2; funext j; exact hb 5 w k j (by omega)
  · funext r' k j; exact hb 6 r' k j (by omega)
  · funext r' k j; exact hb 7 r' k j (by omega)
  · funext r' k j; exact hb 8 r' k j (by omega)
theorem Rw.step {S T S2 T2 : Sg} {r w : Int} (h : Rw S T r w) (ha : AG r S S2) (hb : BG w T T2) (hc : Mc S2 T2 r w) (hh : Mh S2 T2 r w) (hp : Mp S2 T2 r w (S 0 r 6 0)) (hs : Ms S2 T2 r w (S 0 r 31 3)) : Rw S2 T2 r w := h.week ha.1 ha.2.1 hb (by rw [ha.2.2]; exact Int.le_refl _) hc hh hp hs
theorem Mc.grass {S T S2 T2 : Sg} {r w : Int} (h : Mc S T r w) (h1 : ∀ i, i ≠ 4 → S2 0 r 0 i = S 0 r 0 i) (h2 : ∀ i, i ≠ 15 → T2 5 w 0 i = T 5 w 0 i) (e : T2 5 w 0 15 = S2 0 r 0 4) (e2 : 0 ≤ S2 0 r 0 4 ∧ S2 0 r 0 4 ≤ 500) : Mc S2 T2 r w := by
  obtain ⟨d1, d2, d3, d4, d5, d6, d7, d8, d9, d10⟩ := h
  unfold Mc
  rw [h1 0 (by decide), h1 1 (by decide), h1 2 (by decide), h1 3 (by decide), h1 6 (by decide), h2 0 (by decide), h2 38 (by decide), h2 39 (by decide), h2 40 (by decide), h2 41 (by decide)]
  exact ⟨d1, d2, d3, d4, e, d6, d7, d8, e2, d10⟩
