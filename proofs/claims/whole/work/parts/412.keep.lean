/-! ===== what a function may change: cells of its own, by the printed code (by program: wip/whole/gen/keep.py) ===== -/
def Fm (W : Nat → Int → Int → Int → Prop) (S S2 : Sg) : Prop := ∀ (g : Nat) (r k i : Int), ¬ W g r k i → S2 g r k i = S g r k i
def Kf (W : Nat → Int → Int → Int → Prop) (S : Sg) (x : Option (Int × Sg)) : Prop := ∀ (a : Int) (S2 : Sg), x = some (a, S2) → Fm W S S2
theorem Fm.refl (W : Nat → Int → Int → Int → Prop) (S : Sg) : Fm W S S := fun _ _ _ _ _ => rfl
theorem Fm.mono {W W2 : Nat → Int → Int → Int → Prop} {S S2 : Sg} (h : Fm W S S2) (hw : ∀ g r k i, W g r k i → W2 g r k i) : Fm W2 S S2 := fun g r k i q => h g r k i (fun e => q (hw g r k i e))
theorem Fm.trans {W : Nat → Int → Int → Int → Prop} {S S2 S3 : Sg} (h : Fm W S S2) (h2 : Fm W S2 S3) : Fm W S S3 := fun g r k i q => (h2 g r k i q).trans (h g r k i q)
theorem Kf.none {W : Nat → Int → Int → Int → Prop} {S : Sg} : Kf W S none := fun _ _ h => by cases h
theorem Kf.some {W : Nat → Int → Int → Int → Prop} {S S' : Sg} {a : Int} (h : Fm W S S') : Kf W S (some (a, S')) := fun b S2 h2 => by
  injection h2 with h2
  injection h2 with _ h3
  rw [← h3]
  exact h
theorem Kf.ite {W : Nat → Int → Int → Int → Prop} {S : Sg} {c : Prop} [Decidable c] {x y : Option (Int × Sg)} (hx : Kf W S x) (hy : Kf W S y) : Kf W S (if c then x else y) := by
  split
  · exact hx
  · exact hy
theorem Kf.ck {W : Nat → Int → Int → Int → Prop} {S : Sg} {c : Prop} [Decidable c] {x : Option (Int × Sg)} (hx : Kf W S x) : Kf W S (zck c x) := by
  unfold zck
  split
  · exact hx
  · exact Kf.none
theorem Kf.lt {α : Type} {W : Nat → Int → Int → Int → Prop} {S : Sg} {v : α} {q : α → Option (Int × Sg)} (h : ∀ v, Kf W S (q v)) : Kf W S (zlt v q) := h v
theorem Kf.put {W : Nat → Int → Int → Int → Prop} {S S' : Sg} {g : Nat} {r k i v : Int} {q : Sg → Option (Int × Sg)} (h : Fm W S S') (hw : W g r k i) (hk : ∀ U, Fm W S U → Kf W S (q U)) : Kf W S (zlt (zu S' g r k i v) q) := by
  refine hk _ (fun g' r' k' i' n => ?_)
  rw [← h g' r' k' i' n]
  refine if_neg (fun e => n ?_)
  rw [e.1, e.2.1, e.2.2.1, e.2.2.2]
  exact hw
theorem Kf.cp {W : Nat → Int → Int → Int → Prop} {S S' : Sg} {g g2 : Nat} {r k sp r2 k2 dp n : Int} {q : Sg → Option (Int × Sg)} (h : Fm W S S') (hw : ∀ j, W g2 r2 k2 j) (hk : ∀ U, Fm W S U → Kf W S (q U)) : Kf W S (zlt (zcp S' g r k sp g2 r2 k2 dp n) q) := by
  refine hk _ (fun g' r' k' i' m => ?_)
  rw [← h g' r' k' i' m]
  refine if_neg (fun e => m ?_)
  rw [e.1, e.2.1, e.2.2.1]
  exact hw i'
theorem Kf.bd {W : Nat → Int → Int → Int → Prop} {S : Sg} {x : Option (Int × Sg)} {q : Int → Sg → Option (Int × Sg)} (hx : Kf W S x) (hk : ∀ a U, Fm W S U → Kf W S (q a U)) : Kf W S (zbd x q) := by
  cases x with
  | none => exact Kf.none
  | some p => exact hk p.1 p.2 (hx p.1 p.2 rfl)
def zr_Ja_fill (g0 : Nat) (k0 : Int) (r0 : Int) (n0 : Nat) (g : Nat) (r k i : Int) : Prop := (g = g0 ∧ r = r0 ∧ k = k0)
theorem zk_Ja_fill_5 {W : Nat → Int → Int → Int → Prop} {S0 : Sg} {g0 : Nat} {k0 : Int} {r0 : Int} {n0 : Nat} (hW : ∀ g r k i, zr_Ja_fill g0 k0 r0 n0 g r k i → W g r k i) : ∀ (n : Nat) (x1 x2 x3 : Int) (S : Sg), Fm W S0 S → Kf W S0 (zf_Ja_fill_5 g0 r0 k0 n0 n x1 x2 x3 S) := by
  intro n
  induction n with
  | zero => intro x1 x2 x3 S h0; exact Kf.none
  | succ n ih =>
    intro x1 x2 x3 S h0
    rw [zf_Ja_fill_5]
    refine Kf.ite ?_ ?_
    · skip
      exact Kf.some h0
    · skip
      refine Kf.ck ?_
      refine Kf.put h0 (hW _ _ _ _ ⟨rfl, rfl, rfl⟩) (fun S3 h1 => ?_)
      refine Kf.lt (fun v4 => ?_)
      exact ih _ _ _ _ h1
theorem zk_Ja_fill {W : Nat → Int → Int → Int → Prop} {S0 : Sg} {g0 : Nat} {k0 : Int} {r0 : Int} {n0 : Nat} (hW : ∀ g r k i, zr_Ja_fill g0 k0 r0 n0 g r k i → W g r k i) : ∀ (x1 : Int) (S : Sg), Fm W S0 S → Kf W S0 (zf_Ja_fill g0 r0 k0 n0 x1 S) := by
  intro x1 S h0
  unfold zf_Ja_fill
  refine Kf.lt (fun v1 => ?_)
  exact (zk_Ja_fill_5 (g0 := g0) (r0 := r0) (k0 := k0) (n0 := n0) hW) 4096 _ _ _ _ h0
def zr_O_areSkills (g : Nat) (r k i : Int) : Prop := False
theorem zk_O_areSkills {W : Nat → Int → Int → Int → Prop} {S0 : Sg} (hW : ∀ g r k i, zr_O_areSkills g r k i → W g r k i) : ∀ (x0 : Int) (S : Sg), Fm W S0 S → Kf W S0 (zf_O_areSkills x0 S) := by
  intro x0 S h0
  unfold zf_O_areSkills
  refine Kf.ite ?_ ?_
  · skip
    exact Kf.some h0
  · skip
    refine Kf.ite ?_ ?_
    · skip
      exact Kf.some h0
    · skip
      exact Kf.some h0
def zr_O_isHouse (g : Nat) (r k i : Int) : Prop := False
theorem zk_O_isHouse {W : Nat → Int → Int → Int → Prop} {S0 : Sg} (hW : ∀ g r k i, zr_O_isHouse g r k i → W g r k i) : ∀ (x0 : Int) (S : Sg), Fm W S0 S → Kf W S0 (zf_O_isHouse x0 S) := by
  intro x0 S h0
  unfold zf_O_isHouse
  refine Kf.ite ?_ ?_
  · skip
    exact Kf.some h0
  · skip
    refine Kf.ite ?_ ?_
    · skip
      exact Kf.some h0
    · skip
      exact Kf.some h0
def zr_O_mayBeBorn (g : Nat) (r k i : Int) : Prop := False
theorem zk_O_mayBeBorn {W : Nat → Int → Int → Int → Prop} {S0 : Sg} (hW : ∀ g r k i, zr_O_mayBeBorn g r k i → W g r k i) : ∀ (x1 : Int) (S : Sg), Fm W S0 S → Kf W S0 (zf_O_mayBeBorn x1 S) := by
  intro x1 S h0
  unfold zf_O_mayBeBorn
  refine Kf.ite ?_ ?_
  · skip
    exact Kf.some h0
  · skip
    refine Kf.ite ?_ ?_
    · skip
      exact Kf.some h0
    · skip
      exact Kf.some h0
def zr_P_add (r0 : Int) (g : Nat) (r k i : Int) : Prop := (g = 0 ∧ r = r0 ∧ k = 10) ∨ (g = 0 ∧ r = r0 ∧ k = 11) ∨ (g = 0 ∧ r = r0 ∧ k = 12) ∨ (g = 0 ∧ r = r0 ∧ k = 13) ∨ (g = 0 ∧ r = r0 ∧ k = 14) ∨ (g = 0 ∧ r = r0 ∧ k = 15) ∨ (g = 0 ∧ r = r0 ∧ k = 6 ∧ i = 0) ∨ (g = 0 ∧ r = r0 ∧ k = 7) ∨ (g = 0 ∧ r = r0 ∧ k = 8) ∨ (g = 0 ∧ r = r0 ∧ k = 9)
theorem zk_P_add {W : Nat → Int → Int → Int → Prop} {S0 : Sg} {r0 : Int} (hW : ∀ g r k i, zr_P_add r0 g r k i → W g r k i) : ∀ (x1 : Int) (x2 : Int) (x3 : Int) (x4 : Int) (x5 : Int) (S : Sg), Fm W S0 S → Kf W S0 (zf_P_add r0 x1 x2 x3 x4 x5 S) := by
  intro x1 x2 x3 x4 x5 S h0
  unfold zf_P_add
  refine Kf.ite ?_ ?_
  · skip
    refine Kf.lt (fun v2 => ?_)
    refine Kf.ck ?_
    refine Kf.put h0 (hW _ _ _ _ (Or.inr (Or.inr (Or.inr (Or.inr (Or.inr (Or.inr (Or.inr (Or.inl ⟨rfl, rfl, rfl⟩))))))))) (fun S4 h2 => ?_)
    refine Kf.put h2 (hW _ _ _ _ (Or.inr (Or.inr (Or.inr (Or.inr (Or.inr (Or.inr (Or.inr (Or.inr (Or.inl ⟨rfl, rfl, rfl⟩)))))))))) (fun S5 h3 => ?_)
    refine Kf.put h3 (hW _ _ _ _ (Or.inr (Or.inr (Or.inr (Or.inr (Or.inr (Or.inr (Or.inr (Or.inr (Or.inr ⟨rfl, rfl, rfl⟩)))))))))) (fun S6 h4 => ?_)
    refine Kf.put h4 (hW _ _ _ _ (Or.inl ⟨rfl, rfl, rfl⟩)) (fun S7 h5 => ?_)
    refine Kf.put h5 (hW _ _ _ _ (Or.inr (Or.inl ⟨rfl, rfl, rfl⟩))) (fun S8 h6 => ?_)
    refine Kf.put h6 (hW _ _ _ _ (Or.inr (Or.inr (Or.inl ⟨rfl, rfl, rfl⟩)))) (fun S9 h7 => ?_)
    refine Kf.put h7 (hW _ _ _ _ (Or.inr (Or.inr (Or.inr (Or.inl ⟨rfl, rfl, rfl⟩))))) (fun S10 h8 => ?_)
    refine Kf.put h8 (hW _ _ _ _ (Or.inr (Or.inr (Or.inr (Or.inr (Or.inl ⟨rfl, rfl, rfl⟩)))))) (fun S11 h9 => ?_)
    refine Kf.put h9 (hW _ _ _ _ (Or.inr (Or.inr (Or.inr (Or.inr (Or.inr (Or.inl ⟨rfl, rfl, rfl⟩))))))) (fun S12 h10 => ?_)
    refine Kf.put h10 (hW _ _ _ _ (Or.inr (Or.inr (Or.inr (Or.inr (Or.inr (Or.inr (Or.inl ⟨rfl, rfl, rfl, rfl⟩)))))))) (fun S13 h11 => ?_)
    exact Kf.some h11
  · skip
    exact Kf.some h0
def zr_P_has (r0 : Int) (g : Nat) (r k i : Int) : Prop := False
theorem zk_P_has {W : Nat → Int → Int → Int → Prop} {S0 : Sg} {r0 : Int} (hW : ∀ g r k i, zr_P_has r0 g r k i → W g r k i) : ∀ (x1 : Int) (S : Sg), Fm W S0 S → Kf W S0 (zf_P_has r0 x1 S) := by
  intro x1 S h0
  unfold zf_P_has
  refine Kf.ite ?_ ?_
  · skip
    exact Kf.some h0
  · skip
    refine Kf.ite ?_ ?_
    · skip
      exact Kf.some h0
    · skip
      exact Kf.some h0
def zr_O_person (g : Nat) (r k i : Int) : Prop := (g = 0 ∧ r = 0 ∧ k = 10) ∨ (g = 0 ∧ r = 0 ∧ k = 11) ∨ (g = 0 ∧ r = 0 ∧ k = 12) ∨ (g = 0 ∧ r = 0 ∧ k = 13) ∨ (g = 0 ∧ r = 0 ∧ k = 14) ∨ (g = 0 ∧ r = 0 ∧ k = 15) ∨ (g = 0 ∧ r = 0 ∧ k = 6 ∧ i = 0) ∨ (g = 0 ∧ r = 0 ∧ k = 7) ∨ (g = 0 ∧ r = 0 ∧ k = 8) ∨ (g = 0 ∧ r = 0 ∧ k = 9)
theorem zk_O_person_46 {W : Nat → Int → Int → Int → Prop} {S0 : Sg} (hW : ∀ g r k i, zr_O_person g r k i → W g r k i) : ∀ (x1 : Int) (x2 : Int) (x3 : Int) (x4 : Int) (S : Sg), Fm W S0 S → Kf W S0 (zf_O_person_46 x1 x2 x3 x4 S) := by
  intro x1 x2 x3 x4 S h0
  unfold zf_O_person_46
  refine Kf.bd ((zk_P_add (r0 := (0)) (fun g r k i h => hW g r k i (Or.elim h (fun h => (Or.inl ⟨h.1, h.2.1, h.2.2⟩)) (fun h => (Or.elim h (fun h => (Or.inr (Or.inl ⟨h.1, h.2.1, h.2.2⟩))) (fun h => (Or.elim h (fun h => (Or.inr (Or.inr (Or.inl ⟨h.1, h.2.1, h.2.2⟩)))) (fun h => (Or.elim h (fun h => (Or.inr (Or.inr (Or.inr (Or.inl ⟨h.1, h.2.1, h.2.2⟩))))) (fun h => (Or.elim h (fun h => (Or.inr (Or.inr (Or.inr (Or.inr (Or.inl ⟨h.1, h.2.1, h.2.2⟩)))))) (fun h => (Or.elim h (fun h => (Or.inr (Or.inr (Or.inr (Or.inr (Or.inr (Or.inl ⟨h.1, h.2.1, h.2.2⟩))))))) (fun h => (Or.elim h (fun h => (Or.inr (Or.inr (Or.inr (Or.inr (Or.inr (Or.inr (Or.inl ⟨h.1, h.2.1, h.2.2.1, h.2.2.2⟩)))))))) (fun h => (Or.elim h (fun h => (Or.inr (Or.inr (Or.inr (Or.inr (Or.inr (Or.inr (Or.inr (Or.inl ⟨h.1, h.2.1, h.2.2⟩))))))))) (fun h => (Or.elim h (fun h => (Or.inr (Or.inr (Or.inr (Or.inr (Or.inr (Or.inr (Or.inr (Or.inr (Or.inl ⟨h.1, h.2.1, h.2.2⟩)))))))))) (fun h => (Or.inr (Or.inr (Or.inr (Or.inr (Or.inr (Or.inr (Or.inr (Or.inr (Or.inr ⟨h.1, h.2.1, h.2.2⟩))))))))))))))))))))))))))))) _ _ _ _ _ _ h0) (fun a1 S2 h1 => ?_)
  exact Kf.some h1
theorem zk_O_person {W : Nat → Int → Int → Int → Prop} {S0 : Sg} (hW : ∀ g r k i, zr_O_person g r k i → W g r k i) : ∀ (x1 : Int) (x2 : Int) (x3 : Int) (x4 : Int) (S : Sg), Fm W S0 S → Kf W S0 (zf_O_person x1 x2 x3 x4 S) := by
  intro x1 x2 x3 x4 S h0
  unfold zf_O_person
  refine Kf.bd ((zk_O_mayBeBorn (fun _ _ _ _ h => h.elim)) _ _ h0) (fun a1 S2 h1 => ?_)
  refine Kf.ite ?_ ?_
  · skip
    exact Kf.some h1
  · skip
    refine Kf.bd ((zk_O_isHouse (fun _ _ _ _ h => h.elim)) _ _ h1) (fun a4 S5 h2 => ?_)
    refine Kf.ite ?_ ?_
    · skip
      exact Kf.some h2
    · skip
      refine Kf.bd ((zk_O_areSkills (fun _ _ _ _ h => h.elim)) _ _ h2) (fun a7 S8 h3 => ?_)
      refine Kf.ite ?_ ?_
      · skip
        exact Kf.some h3
      · skip
        refine Kf.ite ?_ ?_
        · skip
          exact (zk_O_person_46 hW) _ _ _ _ _ h3
        · skip
          refine Kf.bd ((zk_P_has (r0 := (0)) (fun _ _ _ _ h => h.elim)) _ _ h3) (fun a11 S12 h4 => ?_)
          refine Kf.ite ?_ ?_
          · skip
            exact Kf.some h4
          · skip
            exact (zk_O_person_46 hW) _ _ _ _ _ h4
def zr_O_guest (g : Nat) (r k i : Int) : Prop := (g = 0 ∧ r = 0 ∧ k = 10) ∨ (g = 0 ∧ r = 0 ∧ k = 11) ∨ (g = 0 ∧ r = 0 ∧ k = 12) ∨ (g = 0 ∧ r = 0 ∧ k = 13) ∨ (g = 0 ∧ r = 0 ∧ k = 14) ∨ (g = 0 ∧ r = 0 ∧ k = 15) ∨ (g = 0 ∧ r = 0 ∧ k = 6 ∧ i = 0) ∨ (g = 0 ∧ r = 0 ∧ k = 7) ∨ (g = 0 ∧ r = 0 ∧ k = 8) ∨ (g = 0 ∧ r = 0 ∧ k = 9)
theorem zk_O_guest {W : Nat → Int → Int → Int → Prop} {S0 : Sg} (hW : ∀ g r k i, zr_O_guest g r k i → W g r k i) : ∀ (x1 : Int) (x2 : Int) (x3 : Int) (x4 : Int) (S : Sg), Fm W S0 S → Kf W S0 (zf_O_guest x1 x2 x3 x4 S) := by
  intro x1 x2 x3 x4 S h0
  unfold zf_O_guest
  refine Kf.bd ((zk_O_mayBeBorn (fun _ _ _ _ h => h.elim)) _ _ h0) (fun a1 S2 h1 => ?_)
  refine Kf.ite ?_ ?_
  · skip
    exact Kf.some h1
  · skip
    refine Kf.bd ((zk_O_isHouse (fun _ _ _ _ h => h.elim)) _ _ h1) (fun a4 S5 h2 => ?_)
    refine Kf.ite ?_ ?_
    · skip
      exact Kf.some h2
    · skip
      refine Kf.bd ((zk_O_areSkills (fun _ _ _ _ h => h.elim)) _ _ h2) (fun a7 S8 h3 => ?_)
      refine Kf.ite ?_ ?_
      · skip
        exact Kf.some h3
      · skip
        refine Kf.ite ?_ ?_
        · skip
          exact Kf.some h3
        · skip
          refine Kf.ite ?_ ?_
          · skip
            refine Kf.bd ((zk_P_add (r0 := (0)) (fun g r k i h => hW g r k i (Or.elim h (fun h => (Or.inl ⟨h.1, h.2.1, h.2.2⟩)) (fun h => (Or.elim h (fun h => (Or.inr (Or.inl ⟨h.1, h.2.1, h.2.2⟩))) (fun h => (Or.elim h (fun h => (Or.inr (Or.inr (Or.inl ⟨h.1, h.2.1, h.2.2⟩)))) (fun h => (Or.elim h (fun h => (Or.inr (Or.inr (Or.inr (Or.inl ⟨h.1, h.2.1, h.2.2⟩))))) (fun h => (Or.elim h (fun h => (Or.inr (Or.inr (Or.inr (Or.inr (Or.inl ⟨h.1, h.2.1, h.2.2⟩)))))) (fun h => (Or.elim h (fun h => (Or.inr (Or.inr (Or.inr (Or.inr (Or.inr (Or.inl ⟨h.1, h.2.1, h.2.2⟩))))))) (fun h => (Or.elim h (fun h => (Or.inr (Or.inr (Or.inr (Or.inr (Or.inr (Or.inr (Or.inl ⟨h.1, h.2.1, h.2.2.1, h.2.2.2⟩)))))))) (fun h => (Or.elim h (fun h => (Or.inr (Or.inr (Or.inr (Or.inr (Or.inr (Or.inr (Or.inr (Or.inl ⟨h.1, h.2.1, h.2.2⟩))))))))) (fun h => (Or.elim h (fun h => (Or.inr (Or.inr (Or.inr (Or.inr (Or.inr (Or.inr (Or.inr (Or.inr (Or.inl ⟨h.1, h.2.1, h.2.2⟩)))))))))) (fun h => (Or.inr (Or.inr (Or.inr (Or.inr (Or.inr (Or.inr (Or.inr (Or.inr (Or.inr ⟨h.1, h.2.1, h.2.2⟩))))))))))))))))))))))))))))) _ _ _ _ _ _ h3) (fun a12 S13 h4 => ?_)
            exact Kf.some h4
          · skip
            exact Kf.some h3
def zr_P_kind (r0 : Int) (g : Nat) (r k i : Int) : Prop := False
theorem zk_P_kind {W : Nat → Int → Int → Int → Prop} {S0 : Sg} {r0 : Int} (hW : ∀ g r k i, zr_P_kind r0 g r k i → W g r k i) : ∀ (x1 : Int) (x2 : Int) (S : Sg), Fm W S0 S → Kf W S0 (zf_P_kind r0 x1 x2 S) := by
  intro x1 x2 S h0
  unfold zf_P_kind
  refine Kf.ck ?_
  refine Kf.ite ?_ ?_
  · skip
    exact Kf.some h0
  · skip
    refine Kf.ite ?_ ?_
    · skip
      exact Kf.some h0
    · skip
      refine Kf.ite ?_ ?_
      · skip
        refine Kf.lt (fun v5 => ?_)
        refine Kf.ite ?_ ?_
        · skip
          refine Kf.ite ?_ ?_
          · skip
            refine Kf.ite ?_ ?_
            · skip
              exact Kf.some h0
            · skip
              exact Kf.some h0
          · skip
            exact Kf.some h0
        · skip
          exact Kf.some h0
      · skip
        exact Kf.some h0
def zr_O_birth (g : Nat) (r k i : Int) : Prop := (g = 0 ∧ r = 0 ∧ k = 10) ∨ (g = 0 ∧ r = 0 ∧ k = 11) ∨ (g = 0 ∧ r = 0 ∧ k = 12) ∨ (g = 0 ∧ r = 0 ∧ k = 13) ∨ (g = 0 ∧ r = 0 ∧ k = 14) ∨ (g = 0 ∧ r = 0 ∧ k = 15) ∨ (g = 0 ∧ r = 0 ∧ k = 6 ∧ i = 0) ∨ (g = 0 ∧ r = 0 ∧ k = 7) ∨ (g = 0 ∧ r = 0 ∧ k = 8) ∨ (g = 0 ∧ r = 0 ∧ k = 9)
theorem zk_O_birth_65 {W : Nat → Int → Int → Int → Prop} {S0 : Sg} (hW : ∀ g r k i, zr_O_birth g r k i → W g r k i) : ∀ (x1 : Int) (S : Sg), Fm W S0 S → Kf W S0 (zf_O_birth_65 x1 S) := by
  intro x1 S h0
  unfold zf_O_birth_65
  refine Kf.ck ?_
  refine Kf.bd ((zk_P_add (r0 := (0)) (fun g r k i h => hW g r k i (Or.elim h (fun h => (Or.inl ⟨h.1, h.2.1, h.2.2⟩)) (fun h => (Or.elim h (fun h => (Or.inr (Or.inl ⟨h.1, h.2.1, h.2.2⟩))) (fun h => (Or.elim h (fun h => (Or.inr (Or.inr (Or.inl ⟨h.1, h.2.1, h.2.2⟩)))) (fun h => (Or.elim h (fun h => (Or.inr (Or.inr (Or.inr (Or.inl ⟨h.1, h.2.1, h.2.2⟩))))) (fun h => (Or.elim h (fun h => (Or.inr (Or.inr (Or.inr (Or.inr (Or.inl ⟨h.1, h.2.1, h.2.2⟩)))))) (fun h => (Or.elim h (fun h => (Or.inr (Or.inr (Or.inr (Or.inr (Or.inr (Or.inl ⟨h.1, h.2.1, h.2.2⟩))))))) (fun h => (Or.elim h (fun h => (Or.inr (Or.inr (Or.inr (Or.inr (Or.inr (Or.inr (Or.inl ⟨h.1, h.2.1, h.2.2.1, h.2.2.2⟩)))))))) (fun h => (Or.elim h (fun h => (Or.inr (Or.inr (Or.inr (Or.inr (Or.inr (Or.inr (Or.inr (Or.inl ⟨h.1, h.2.1, h.2.2⟩))))))))) (fun h => (Or.elim h (fun h => (Or.inr (Or.inr (Or.inr (Or.inr (Or.inr (Or.inr (Or.inr (Or.inr (Or.inl ⟨h.1, h.2.1, h.2.2⟩)))))))))) (fun h => (Or.inr (Or.inr (Or.inr (Or.inr (Or.inr (Or.inr (Or.inr (Or.inr (Or.inr ⟨h.1, h.2.1, h.2.2⟩))))))))))))))))))))))))))))) _ _ _ _ _ _ h0) (fun a2 S3 h1 => ?_)
  exact Kf.some h1
theorem zk_O_birth {W : Nat → Int → Int → Int → Prop} {S0 : Sg} (hW : ∀ g r k i, zr_O_birth g r k i → W g r k i) : ∀ (x1 : Int) (S : Sg), Fm W S0 S → Kf W S0 (zf_O_birth x1 S) := by
  intro x1 S h0
  unfold zf_O_birth
  refine Kf.bd ((zk_P_has (r0 := (0)) (fun _ _ _ _ h => h.elim)) _ _ h0) (fun a1 S2 h1 => ?_)
  refine Kf.ite ?_ ?_
  · skip
    exact Kf.some h1
  · skip
    refine Kf.ite ?_ ?_
    · skip
      refine Kf.bd ((zk_P_kind (r0 := (0)) (fun _ _ _ _ h => h.elim)) _ _ _ h1) (fun a5 S6 h2 => ?_)
      refine Kf.ite ?_ ?_
      · skip
        exact (zk_O_birth_65 hW) _ _ h2
      · skip
        refine Kf.ite ?_ ?_
        · skip
          exact (zk_O_birth_65 hW) _ _ h2
        · skip
          exact Kf.some h2
    · skip
      exact Kf.some h1
def zr_P_age (r0 : Int) (g : Nat) (r k i : Int) : Prop := False
theorem zk_P_age {W : Nat → Int → Int → Int → Prop} {S0 : Sg} {r0 : Int} (hW : ∀ g r k i, zr_P_age r0 g r k i → W g r k i) : ∀ (x1 : Int) (x2 : Int) (S : Sg), Fm W S0 S → Kf W S0 (zf_P_age r0 x1 x2 S) := by
  intro x1 x2 S h0
  unfold zf_P_age
  refine Kf.ck ?_
  exact Kf.some h0
def zr_O_death (g : Nat) (r k i : Int) : Prop := (g = 0 ∧ r = 0 ∧ k = 11)
theorem zk_O_death {W : Nat → Int → Int → Int → Prop} {S0 : Sg} (hW : ∀ g r k i, zr_O_death g r k i → W g r k i) : ∀ (x1 : Int) (S : Sg), Fm W S0 S → Kf W S0 (zf_O_death x1 S) := by
  intro x1 S h0
  unfold zf_O_death
  refine Kf.bd ((zk_P_has (r0 := (0)) (fun _ _ _ _ h => h.elim)) _ _ h0) (fun a1 S2 h1 => ?_)
  refine Kf.ite ?_ ?_
  · skip
    exact Kf.some h1
  · skip
    refine Kf.ck ?_
    refine Kf.ite ?_ ?_
    · skip
      exact Kf.some h1
    · skip
      refine Kf.put h1 (hW _ _ _ _ ⟨rfl, rfl, rfl⟩) (fun S6 h2 => ?_)
      refine Kf.bd ((zk_P_age (r0 := (0)) (fun _ _ _ _ h => h.elim)) _ _ _ h2) (fun a7 S8 h3 => ?_)
      exact Kf.some h3
def zr_O_back (g : Nat) (r k i : Int) : Prop := (g = 0 ∧ r = 0 ∧ k = 11) ∨ (g = 0 ∧ r = 0 ∧ k = 13)
theorem zk_O_back {W : Nat → Int → Int → Int → Prop} {S0 : Sg} (hW : ∀ g r k i, zr_O_back g r k i → W g r k i) : ∀ (x1 : Int) (S : Sg), Fm W S0 S → Kf W S0 (zf_O_back x1 S) := by
  intro x1 S h0
  unfold zf_O_back
  refine Kf.bd ((zk_P_has (r0 := (0)) (fun _ _ _ _ h => h.elim)) _ _ h0) (fun a1 S2 h1 => ?_)
  refine Kf.ite ?_ ?_
  · skip
    exact Kf.some h1
  · skip
    refine Kf.ck ?_
    refine Kf.ite ?_ ?_
    · skip
      refine Kf.put h1 (hW _ _ _ _ (Or.inl ⟨rfl, rfl, rfl⟩)) (fun S6 h2 => ?_)
      refine Kf.put h2 (hW _ _ _ _ (Or.inr ⟨rfl, rfl, rfl⟩)) (fun S7 h3 => ?_)
      refine Kf.bd ((zk_P_age (r0 := (0)) (fun _ _ _ _ h => h.elim)) _ _ _ h3) (fun a8 S9 h4 => ?_)
      exact Kf.some h4
    · skip
      exact Kf.some h1
def zr_O_skill (g : Nat) (r k i : Int) : Prop := (g = 0 ∧ r = 0 ∧ k = 10)
theorem zk_O_skill_83 {W : Nat → Int → Int → Int → Prop} {S0 : Sg} (hW : ∀ g r k i, zr_O_skill g r k i → W g r k i) : ∀ (x1 : Int) (x4 : Int) (xt0 : Int) (S : Sg), Fm W S0 S → Kf W S0 (zf_O_skill_83 x1 x4 xt0 S) := by
  intro x1 x4 xt0 S h0
  unfold zf_O_skill_83
  refine Kf.ck ?_
  refine Kf.put h0 (hW _ _ _ _ ⟨rfl, rfl, rfl⟩) (fun S2 h1 => ?_)
  refine Kf.ite ?_ ?_
  · skip
    exact Kf.some h1
  · skip
    exact Kf.some h1
theorem zk_O_skill {W : Nat → Int → Int → Int → Prop} {S0 : Sg} (hW : ∀ g r k i, zr_O_skill g r k i → W g r k i) : ∀ (x1 : Int) (x2 : Int) (x3 : Int) (S : Sg), Fm W S0 S → Kf W S0 (zf_O_skill x1 x2 x3 S) := by
  intro x1 x2 x3 S h0
  unfold zf_O_skill
  refine Kf.bd ((zk_P_has (r0 := (0)) (fun _ _ _ _ h => h.elim)) _ _ h0) (fun a1 S2 h1 => ?_)
  refine Kf.ite ?_ ?_
  · skip
    exact Kf.some h1
  · skip
    refine Kf.ite ?_ ?_
    · skip
      exact Kf.some h1
    · skip
      refine Kf.ite ?_ ?_
      · skip
        refine Kf.ck ?_
        refine Kf.ite ?_ ?_
        · skip
          exact Kf.some h1
        · skip
          refine Kf.lt (fun v8 => ?_)
          refine Kf.lt (fun v9 => ?_)
          refine Kf.ite ?_ ?_
          · skip
            exact (zk_O_skill_83 hW) _ _ _ _ h1
          · skip
            exact (zk_O_skill_83 hW) _ _ _ _ h1
      · skip
        exact Kf.some h1
def zr_O_move (g : Nat) (r k i : Int) : Prop := (g = 0 ∧ r = 0 ∧ k = 8)
theorem zk_O_move {W : Nat → Int → Int → Int → Prop} {S0 : Sg} (hW : ∀ g r k i, zr_O_move g r k i → W g r k i) : ∀ (x1 : Int) (x2 : Int) (S : Sg), Fm W S0 S → Kf W S0 (zf_O_move x1 x2 S) := by
  intro x1 x2 S h0
  unfold zf_O_move
  refine Kf.bd ((zk_P_has (r0 := (0)) (fun _ _ _ _ h => h.elim)) _ _ h0) (fun a1 S2 h1 => ?_)
  refine Kf.ite ?_ ?_
  · skip
    exact Kf.some h1
  · skip
    refine Kf.bd ((zk_O_isHouse (fun _ _ _ _ h => h.elim)) _ _ h1) (fun a4 S5 h2 => ?_)
    refine Kf.ite ?_ ?_
    · skip
      exact Kf.some h2
    · skip
      refine Kf.ck ?_
      refine Kf.ite ?_ ?_
      · skip
        refine Kf.lt (fun v9 => ?_)
        refine Kf.put h2 (hW _ _ _ _ ⟨rfl, rfl, rfl⟩) (fun S10 h4 => ?_)
        exact Kf.some h4
      · skip
        exact Kf.some h2
def zr_O_house (g : Nat) (r k i : Int) : Prop := (g = 0 ∧ r = 0 ∧ k = 2) ∨ (g = 0 ∧ r = 0 ∧ k = 4)
theorem zk_O_house_61 {W : Nat → Int → Int → Int → Prop} {S0 : Sg} (hW : ∀ g r k i, zr_O_house g r k i → W g r k i) : ∀ (x1 : Int) (x2 : Int) (x3 : Int) (xt0 : Int) (S : Sg), Fm W S0 S → Kf W S0 (zf_O_house_61 x1 x2 x3 xt0 S) := by
  intro x1 x2 x3 xt0 S h0
  unfold zf_O_house_61
  refine Kf.ck ?_
  refine Kf.put h0 (hW _ _ _ _ (Or.inl ⟨rfl, rfl, rfl⟩)) (fun S2 h1 => ?_)
  refine Kf.put h1 (hW _ _ _ _ (Or.inr ⟨rfl, rfl, rfl⟩)) (fun S3 h2 => ?_)
  refine Kf.ite ?_ ?_
  · skip
    exact Kf.some h2
  · skip
    exact Kf.some h2
theorem zk_O_house_56 {W : Nat → Int → Int → Int → Prop} {S0 : Sg} (hW : ∀ g r k i, zr_O_house g r k i → W g r k i) : ∀ (x1 : Int) (x2 : Int) (x3 : Int) (S : Sg), Fm W S0 S → Kf W S0 (zf_O_house_56 x1 x2 x3 S) := by
  intro x1 x2 x3 S h0
  unfold zf_O_house_56
  exact (zk_O_house_61 hW) _ _ _ _ _ h0
theorem zk_O_house {W : Nat → Int → Int → Int → Prop} {S0 : Sg} (hW : ∀ g r k i, zr_O_house g r k i → W g r k i) : ∀ (x1 : Int) (x2 : Int) (x3 : Int) (S : Sg), Fm W S0 S → Kf W S0 (zf_O_house x1 x2 x3 S) := by
  intro x1 x2 x3 S h0
  unfold zf_O_house
  refine Kf.bd ((zk_O_isHouse (fun _ _ _ _ h => h.elim)) _ _ h0) (fun a1 S2 h1 => ?_)
  refine Kf.ite ?_ ?_
  · skip
    exact Kf.some h1
  · skip
    refine Kf.ite ?_ ?_
    · skip
      exact Kf.some h1
    · skip
      refine Kf.ite ?_ ?_
      · skip
        exact Kf.some h1
      · skip
        refine Kf.ite ?_ ?_
        · skip
          exact Kf.some h1
        · skip
          refine Kf.ite ?_ ?_
          · skip
            refine Kf.ck ?_
            refine Kf.ite ?_ ?_
            · skip
              refine Kf.ite ?_ ?_
              · skip
                exact (zk_O_house_61 hW) _ _ _ _ _ h1
              · skip
                exact (zk_O_house_56 hW) _ _ _ _ h1
            · skip
              exact (zk_O_house_56 hW) _ _ _ _ h1
          · skip
            exact Kf.some h1
def zr_P_needOf (g : Nat) (r k i : Int) : Prop := False
theorem zk_P_needOf {W : Nat → Int → Int → Int → Prop} {S0 : Sg} (hW : ∀ g r k i, zr_P_needOf g r k i → W g r k i) : ∀ (x0 : Int) (x1 : Int) (S : Sg), Fm W S0 S → Kf W S0 (zf_P_needOf x0 x1 S) := by
  intro x0 x1 S h0
  unfold zf_P_needOf
  refine Kf.ite ?_ ?_
  · skip
    exact Kf.some h0
  · skip
    refine Kf.ite ?_ ?_
    · skip
      exact Kf.some h0
    · skip
      refine Kf.ite ?_ ?_
      · skip
        refine Kf.ite ?_ ?_
        · skip
          exact Kf.some h0
        · skip
          exact Kf.some h0
      · skip
        refine Kf.ite ?_ ?_
        · skip
          exact Kf.some h0
        · skip
          refine Kf.ite ?_ ?_
          · skip
            exact Kf.some h0
          · skip
            refine Kf.ite ?_ ?_
            · skip
              refine Kf.ite ?_ ?_
              · skip
                exact Kf.some h0
              · skip
                exact Kf.some h0
            · skip
              exact Kf.some h0
def zr_P_need (r0 : Int) (g : Nat) (r k i : Int) : Prop := False
theorem zk_P_need_20 {W : Nat → Int → Int → Int → Prop} {S0 : Sg} {r0 : Int} (hW : ∀ g r k i, zr_P_need r0 g r k i → W g r k i) : ∀ (xt0 : Int) (xt1 : Int) (S : Sg), Fm W S0 S → Kf W S0 (zf_P_need_20 r0 xt0 xt1 S) := by
  intro xt0 xt1 S h0
  unfold zf_P_need_20
  refine Kf.bd ((zk_P_needOf (fun _ _ _ _ h => h.elim)) _ _ _ h0) (fun a1 S2 h1 => ?_)
  exact Kf.some h1
theorem zk_P_need {W : Nat → Int → Int → Int → Prop} {S0 : Sg} {r0 : Int} (hW : ∀ g r k i, zr_P_need r0 g r k i → W g r k i) : ∀ (x1 : Int) (x2 : Int) (S : Sg), Fm W S0 S → Kf W S0 (zf_P_need r0 x1 x2 S) := by
  intro x1 x2 S h0
  unfold zf_P_need
  refine Kf.bd ((zk_P_kind (r0 := (r0)) (fun _ _ _ _ h => h.elim)) _ _ _ h0) (fun a1 S2 h1 => ?_)
  refine Kf.ck ?_
  refine Kf.ite ?_ ?_
  · skip
    exact (zk_P_need_20 (r0 := r0) hW) _ _ _ h1
  · skip
    exact (zk_P_need_20 (r0 := r0) hW) _ _ _ h1
def zr_P_wageOf (g : Nat) (r k i : Int) : Prop := False
theorem zk_P_wageOf {W : Nat → Int → Int → Int → Prop} {S0 : Sg} (hW : ∀ g r k i, zr_P_wageOf g r k i → W g r k i) : ∀ (x0 : Int) (x1 : Int) (S : Sg), Fm W S0 S → Kf W S0 (zf_P_wageOf x0 x1 S) := by
  intro x0 x1 S h0
  unfold zf_P_wageOf
  refine Kf.ite ?_ ?_
  · skip
    refine Kf.ite ?_ ?_
    · skip
      exact Kf.some h0
    · skip
      exact Kf.some h0
  · skip
    refine Kf.ite ?_ ?_
    · skip
      exact Kf.some h0
    · skip
      refine Kf.ite ?_ ?_
      · skip
        exact Kf.some h0
      · skip
        refine Kf.ite ?_ ?_
        · skip
          refine Kf.ite ?_ ?_
          · skip
            exact Kf.some h0
          · skip
            exact Kf.some h0
        · skip
          exact Kf.some h0
def zr_P_wage (r0 : Int) (g : Nat) (r k i : Int) : Prop := False
theorem zk_P_wage_20 {W : Nat → Int → Int → Int → Prop} {S0 : Sg} {r0 : Int} (hW : ∀ g r k i, zr_P_wage r0 g r k i → W g r k i) : ∀ (xt0 : Int) (xt1 : Int) (S : Sg), Fm W S0 S → Kf W S0 (zf_P_wage_20 r0 xt0 xt1 S) := by
  intro xt0 xt1 S h0
  unfold zf_P_wage_20
  refine Kf.bd ((zk_P_wageOf (fun _ _ _ _ h => h.elim)) _ _ _ h0) (fun a1 S2 h1 => ?_)
  exact Kf.some h1
theorem zk_P_wage {W : Nat → Int → Int → Int → Prop} {S0 : Sg} {r0 : Int} (hW : ∀ g r k i, zr_P_wage r0 g r k i → W g r k i) : ∀ (x1 : Int) (x2 : Int) (S : Sg), Fm W S0 S → Kf W S0 (zf_P_wage r0 x1 x2 S) := by
  intro x1 x2 S h0
  unfold zf_P_wage
  refine Kf.bd ((zk_P_kind (r0 := (r0)) (fun _ _ _ _ h => h.elim)) _ _ _ h0) (fun a1 S2 h1 => ?_)
  refine Kf.ck ?_
  refine Kf.ite ?_ ?_
  · skip
    exact (zk_P_wage_20 (r0 := r0) hW) _ _ _ h1
  · skip
    exact (zk_P_wage_20 (r0 := r0) hW) _ _ _ h1
def zr_O_about (g : Nat) (r k i : Int) : Prop := False
theorem zk_O_about {W : Nat → Int → Int → Int → Prop} {S0 : Sg} (hW : ∀ g r k i, zr_O_about g r k i → W g r k i) : ∀ (x1 : Int) (x2 : Int) (S : Sg), Fm W S0 S → Kf W S0 (zf_O_about x1 x2 S) := by
  intro x1 x2 S h0
  unfold zf_O_about
  refine Kf.bd ((zk_P_has (r0 := (0)) (fun _ _ _ _ h => h.elim)) _ _ h0) (fun a1 S2 h1 => ?_)
  refine Kf.ite ?_ ?_
  · skip
    exact Kf.some h1
  · skip
    refine Kf.ite ?_ ?_
    · skip
      refine Kf.bd ((zk_P_kind (r0 := (0)) (fun _ _ _ _ h => h.elim)) _ _ _ h1) (fun a5 S6 h2 => ?_)
      exact Kf.some h2
    · skip
      refine Kf.ite ?_ ?_
      · skip
        refine Kf.bd ((zk_P_age (r0 := (0)) (fun _ _ _ _ h => h.elim)) _ _ _ h1) (fun a8 S9 h3 => ?_)
        exact Kf.some h3
      · skip
        refine Kf.ite ?_ ?_
        · skip
          refine Kf.ck ?_
          exact Kf.some h1
        · skip
          refine Kf.ite ?_ ?_
          · skip
            refine Kf.ck ?_
            refine Kf.ite ?_ ?_
            · skip
              exact Kf.some h1
            · skip
              exact Kf.some h1
          · skip
            refine Kf.ite ?_ ?_
            · skip
              refine Kf.ck ?_
              exact Kf.some h1
            · skip
              refine Kf.ite ?_ ?_
              · skip
                refine Kf.ck ?_
                exact Kf.some h1
              · skip
                refine Kf.ite ?_ ?_
                · skip
                  refine Kf.ck ?_
                  exact Kf.some h1
                · skip
                  refine Kf.ite ?_ ?_
                  · skip
                    refine Kf.ck ?_
                    refine Kf.ite ?_ ?_
                    · skip
                      exact Kf.some h1
                    · skip
                      exact Kf.some h1
                  · skip
                    refine Kf.ite ?_ ?_
                    · skip
                      refine Kf.bd ((zk_P_need (r0 := (0)) (fun _ _ _ _ h => h.elim)) _ _ _ h1) (fun a25 S26 h4 => ?_)
                      exact Kf.some h4
                    · skip
                      refine Kf.ite ?_ ?_
                      · skip
                        refine Kf.bd ((zk_P_wage (r0 := (0)) (fun _ _ _ _ h => h.elim)) _ _ _ h1) (fun a28 S29 h5 => ?_)
                        exact Kf.some h5
                      · skip
                        refine Kf.ite ?_ ?_
                        · skip
                          refine Kf.ck ?_
                          exact Kf.some h1
                        · skip
                          exact Kf.some h1
def zr_P_headsOf (r0 : Int) (g : Nat) (r k i : Int) : Prop := False
theorem zk_P_headsOf_34 {W : Nat → Int → Int → Int → Prop} {S0 : Sg} {r0 : Int} (hW : ∀ g r k i, zr_P_headsOf r0 g r k i → W g r k i) {q4 : Int → Int → Int → Sg → Option (Int × Sg)} (hq4 : ∀ (x0 x1 x2 : Int) (S : Sg), Fm W S0 S → Kf W S0 (q4 x0 x1 x2 S)) : ∀ (x1 : Int) (x2 : Int) (x3 : Int) (S : Sg), Fm W S0 S → Kf W S0 (zf_P_headsOf_34 r0 q4 x1 x2 x3 S) := by
  intro x1 x2 x3 S h0
  unfold zf_P_headsOf_34
  refine Kf.lt (fun v1 => ?_)
  exact hq4 _ _ _ _ h0
theorem zk_P_headsOf_4 {W : Nat → Int → Int → Int → Prop} {S0 : Sg} {r0 : Int} (hW : ∀ g r k i, zr_P_headsOf r0 g r k i → W g r k i) : ∀ (n : Nat) (x1 x2 x3 : Int) (S : Sg), Fm W S0 S → Kf W S0 (zf_P_headsOf_4 r0 n x1 x2 x3 S) := by
  intro n
  induction n with
  | zero => intro x1 x2 x3 S h0; exact Kf.none
  | succ n ih =>
    intro x1 x2 x3 S h0
    rw [zf_P_headsOf_4]
    refine Kf.ite ?_ ?_
    · skip
      exact Kf.some h0
    · skip
      refine Kf.ck ?_
      refine Kf.ite ?_ ?_
      · skip
        refine Kf.ite ?_ ?_
        · skip
          refine Kf.lt (fun v5 => ?_)
          exact (zk_P_headsOf_34 (r0 := r0) hW ih) _ _ _ _ h0
        · skip
          exact (zk_P_headsOf_34 (r0 := r0) hW ih) _ _ _ _ h0
      · skip
        exact (zk_P_headsOf_34 (r0 := r0) hW ih) _ _ _ _ h0
theorem zk_P_headsOf {W : Nat → Int → Int → Int → Prop} {S0 : Sg} {r0 : Int} (hW : ∀ g r k i, zr_P_headsOf r0 g r k i → W g r k i) : ∀ (x1 : Int) (S : Sg), Fm W S0 S → Kf W S0 (zf_P_headsOf r0 x1 S) := by
  intro x1 S h0
  unfold zf_P_headsOf
  exact (zk_P_headsOf_4 (r0 := r0) hW) 4096 _ _ _ _ h0
def zr_O_home (g : Nat) (r k i : Int) : Prop := False
theorem zk_O_home {W : Nat → Int → Int → Int → Prop} {S0 : Sg} (hW : ∀ g r k i, zr_O_home g r k i → W g r k i) : ∀ (x1 : Int) (x2 : Int) (S : Sg), Fm W S0 S → Kf W S0 (zf_O_home x1 x2 S) := by
  intro x1 x2 S h0
  unfold zf_O_home
  refine Kf.bd ((zk_O_isHouse (fun _ _ _ _ h => h.elim)) _ _ h0) (fun a1 S2 h1 => ?_)
  refine Kf.ite ?_ ?_
  · skip
    exact Kf.some h1
  · skip
    refine Kf.ite ?_ ?_
    · skip
      refine Kf.bd ((zk_P_headsOf (r0 := (0)) (fun _ _ _ _ h => h.elim)) _ _ h1) (fun a5 S6 h2 => ?_)
      exact Kf.some h2
    · skip
      refine Kf.ite ?_ ?_
      · skip
        refine Kf.ck ?_
        exact Kf.some h1
      · skip
        refine Kf.ite ?_ ?_
        · skip
          refine Kf.ck ?_
          exact Kf.some h1
        · skip
          refine Kf.ite ?_ ?_
          · skip
            refine Kf.ck ?_
            exact Kf.some h1
          · skip
            refine Kf.ite ?_ ?_
            · skip
              refine Kf.ck ?_
              exact Kf.some h1
            · skip
              exact Kf.some h1
def zr_O_isShelf (g : Nat) (r k i : Int) : Prop := False
theorem zk_O_isShelf {W : Nat → Int → Int → Int → Prop} {S0 : Sg} (hW : ∀ g r k i, zr_O_isShelf g r k i → W g r k i) : ∀ (x0 : Int) (S : Sg), Fm W S0 S → Kf W S0 (zf_O_isShelf x0 S) := by
  intro x0 S h0
  unfold zf_O_isShelf
  refine Kf.ite ?_ ?_
  · skip
    exact Kf.some h0
  · skip
    refine Kf.ite ?_ ?_
    · skip
      exact Kf.some h0
    · skip
      exact Kf.some h0
def zr_R_fieldStep (g : Nat) (r k i : Int) : Prop := False
theorem zk_R_fieldStep {W : Nat → Int → Int → Int → Prop} {S0 : Sg} (hW : ∀ g r k i, zr_R_fieldStep g r k i → W g r k i) : ∀ (x0 : Int) (S : Sg), Fm W S0 S → Kf W S0 (zf_R_fieldStep x0 S) := by
  intro x0 S h0
  unfold zf_R_fieldStep
  refine Kf.ite ?_ ?_
  · skip
    exact Kf.some h0
  · skip
    refine Kf.ite ?_ ?_
    · skip
      exact Kf.some h0
    · skip
      refine Kf.ite ?_ ?_
      · skip
        exact Kf.some h0
      · skip
        refine Kf.ite ?_ ?_
        · skip
          exact Kf.some h0
        · skip
          refine Kf.ite ?_ ?_
          · skip
            exact Kf.some h0
          · skip
            refine Kf.ite ?_ ?_
            · skip
              exact Kf.some h0
            · skip
              refine Kf.ite ?_ ?_
              · skip
                exact Kf.some h0
              · skip
                refine Kf.ite ?_ ?_
                · skip
                  exact Kf.some h0
                · skip
                  refine Kf.ite ?_ ?_
                  · skip
                    exact Kf.some h0
                  · skip
                    refine Kf.ite ?_ ?_
                    · skip
                      exact Kf.some h0
                    · skip
                      refine Kf.ite ?_ ?_
                      · skip
                        exact Kf.some h0
                      · skip
                        refine Kf.ite ?_ ?_
                        · skip
                          exact Kf.some h0
                        · skip
                          refine Kf.ite ?_ ?_
                          · skip
                            exact Kf.some h0
                          · skip
                            refine Kf.ite ?_ ?_
                            · skip
                              exact Kf.some h0
                            · skip
                              refine Kf.ite ?_ ?_
                              · skip
                                exact Kf.some h0
                              · skip
                                refine Kf.ite ?_ ?_
                                · skip
                                  exact Kf.some h0
                                · skip
                                  refine Kf.ite ?_ ?_
                                  · skip
                                    exact Kf.some h0
                                  · skip
                                    refine Kf.ite ?_ ?_
                                    · skip
                                      exact Kf.some h0
                                    · skip
                                      refine Kf.ite ?_ ?_
                                      · skip
                                        exact Kf.some h0
                                      · skip
                                        refine Kf.ite ?_ ?_
                                        · skip
                                          exact Kf.some h0
                                        · skip
                                          refine Kf.ite ?_ ?_
                                          · skip
                                            exact Kf.some h0
                                          · skip
                                            refine Kf.ite ?_ ?_
                                            · skip
                                              exact Kf.some h0
                                            · skip
                                              refine Kf.ite ?_ ?_
                                              · skip
                                                exact Kf.some h0
                                              · skip
                                                exact Kf.some h0
def zr_R_write (g : Nat) (r k i : Int) : Prop := (g = 3 ∧ r = 0 ∧ k = 4 ∧ i = 2) ∨ (g = 3 ∧ r = 0 ∧ k = 5)
theorem zk_R_write {W : Nat → Int → Int → Int → Prop} {S0 : Sg} (hW : ∀ g r k i, zr_R_write g r k i → W g r k i) : ∀ (x1 : Int) (S : Sg), Fm W S0 S → Kf W S0 (zf_R_write x1 S) := by
  intro x1 S h0
  unfold zf_R_write
  refine Kf.ite ?_ ?_
  · skip
    exact Kf.some h0
  · skip
    refine Kf.ck ?_
    refine Kf.put h0 (hW _ _ _ _ (Or.inr ⟨rfl, rfl, rfl⟩)) (fun S3 h1 => ?_)
    refine Kf.put h1 (hW _ _ _ _ (Or.inl ⟨rfl, rfl, rfl, rfl⟩)) (fun S4 h2 => ?_)
    exact Kf.some h2
def zr_R_takesAtom (g : Nat) (r k i : Int) : Prop := (g = 3 ∧ r = 0 ∧ k = 4 ∧ i = 2) ∨ (g = 3 ∧ r = 0 ∧ k = 4 ∧ i = 5) ∨ (g = 3 ∧ r = 0 ∧ k = 4 ∧ i = 7) ∨ (g = 3 ∧ r = 0 ∧ k = 5)
theorem zk_R_takesAtom_62 {W : Nat → Int → Int → Int → Prop} {S0 : Sg} (hW : ∀ g r k i, zr_R_takesAtom g r k i → W g r k i) : ∀ (x2 : Int) (xt1 : Int) (S : Sg), Fm W S0 S → Kf W S0 (zf_R_takesAtom_62 x2 xt1 S) := by
  intro x2 xt1 S h0
  unfold zf_R_takesAtom_62
  refine Kf.put h0 (hW _ _ _ _ (Or.inr (Or.inr (Or.inl ⟨rfl, rfl, rfl, rfl⟩)))) (fun S1 h1 => ?_)
  refine Kf.put h1 (hW _ _ _ _ (Or.inr (Or.inl ⟨rfl, rfl, rfl, rfl⟩))) (fun S2 h2 => ?_)
  exact Kf.some h2
theorem zk_R_takesAtom_46 {W : Nat → Int → Int → Int → Prop} {S0 : Sg} (hW : ∀ g r k i, zr_R_takesAtom g r k i → W g r k i) : ∀ (x2 : Int) (x3 : Int) (x4 : Int) (S : Sg), Fm W S0 S → Kf W S0 (zf_R_takesAtom_46 x2 x3 x4 S) := by
  intro x2 x3 x4 S h0
  unfold zf_R_takesAtom_46
  refine Kf.bd ((zk_R_write (fun g r k i h => hW g r k i (Or.elim h (fun h => (Or.inl ⟨h.1, h.2.1, h.2.2.1, h.2.2.2⟩)) (fun h => (Or.inr (Or.inr (Or.inr ⟨h.1, h.2.1, h.2.2⟩))))))) _ _ h0) (fun a1 S2 h1 => ?_)
  refine Kf.ite ?_ ?_
  · skip
    exact (zk_R_takesAtom_62 hW) _ _ _ h1
  · skip
    exact (zk_R_takesAtom_62 hW) _ _ _ h1
theorem zk_R_takesAtom_33 {W : Nat → Int → Int → Int → Prop} {S0 : Sg} (hW : ∀ g r k i, zr_R_takesAtom g r k i → W g r k i) : ∀ (x2 : Int) (x3 : Int) (xt0 : Int) (S : Sg), Fm W S0 S → Kf W S0 (zf_R_takesAtom_33 x2 x3 xt0 S) := by
  intro x2 x3 xt0 S h0
  unfold zf_R_takesAtom_33
  refine Kf.ite ?_ ?_
  · skip
    refine Kf.ite ?_ ?_
    · skip
      exact (zk_R_takesAtom_46 hW) _ _ _ _ h0
    · skip
      exact Kf.some h0
  · skip
    exact (zk_R_takesAtom_46 hW) _ _ _ _ h0
theorem zk_R_takesAtom_17 {W : Nat → Int → Int → Int → Prop} {S0 : Sg} (hW : ∀ g r k i, zr_R_takesAtom g r k i → W g r k i) : ∀ (x1 : Int) (x2 : Int) (xt0 : Int) (S : Sg), Fm W S0 S → Kf W S0 (zf_R_takesAtom_17 x1 x2 xt0 S) := by
  intro x1 x2 xt0 S h0
  unfold zf_R_takesAtom_17
  refine Kf.ite ?_ ?_
  · skip
    refine Kf.bd ((zk_R_fieldStep (fun _ _ _ _ h => h.elim)) _ _ h0) (fun a2 S3 h1 => ?_)
    exact (zk_R_takesAtom_33 hW) _ _ _ _ h1
  · skip
    exact (zk_R_takesAtom_33 hW) _ _ _ _ h0
theorem zk_R_takesAtom_16 {W : Nat → Int → Int → Int → Prop} {S0 : Sg} (hW : ∀ g r k i, zr_R_takesAtom g r k i → W g r k i) : ∀ (x1 : Int) (x2 : Int) (S : Sg), Fm W S0 S → Kf W S0 (zf_R_takesAtom_16 x1 x2 S) := by
  intro x1 x2 S h0
  unfold zf_R_takesAtom_16
  exact (zk_R_takesAtom_17 hW) _ _ _ _ h0
theorem zk_R_takesAtom {W : Nat → Int → Int → Int → Prop} {S0 : Sg} (hW : ∀ g r k i, zr_R_takesAtom g r k i → W g r k i) : ∀ (x1 : Int) (x2 : Int) (S : Sg), Fm W S0 S → Kf W S0 (zf_R_takesAtom x1 x2 S) := by
  intro x1 x2 S h0
  unfold zf_R_takesAtom
  refine Kf.ite ?_ ?_
  · skip
    exact (zk_R_takesAtom_16 hW) _ _ _ h0
  · skip
    refine Kf.ite ?_ ?_
    · skip
      exact (zk_R_takesAtom_16 hW) _ _ _ h0
    · skip
      exact (zk_R_takesAtom_17 hW) _ _ _ _ h0
def zr_R_hold (g : Nat) (r k i : Int) : Prop := (g = 3 ∧ r = 0 ∧ k = 4 ∧ i = 4) ∨ (g = 3 ∧ r = 0 ∧ k = 6)
theorem zk_R_hold {W : Nat → Int → Int → Int → Prop} {S0 : Sg} (hW : ∀ g r k i, zr_R_hold g r k i → W g r k i) : ∀ (x1 : Int) (S : Sg), Fm W S0 S → Kf W S0 (zf_R_hold x1 S) := by
  intro x1 S h0
  unfold zf_R_hold
  refine Kf.ite ?_ ?_
  · skip
    exact Kf.some h0
  · skip
    refine Kf.ck ?_
    refine Kf.put h0 (hW _ _ _ _ (Or.inr ⟨rfl, rfl, rfl⟩)) (fun S3 h1 => ?_)
    refine Kf.put h1 (hW _ _ _ _ (Or.inl ⟨rfl, rfl, rfl, rfl⟩)) (fun S4 h2 => ?_)
    exact Kf.some h2
def zr_R_takesBracket (g : Nat) (r k i : Int) : Prop := (g = 3 ∧ r = 0 ∧ k = 4 ∧ i = 4) ∨ (g = 3 ∧ r = 0 ∧ k = 4 ∧ i = 6) ∨ (g = 3 ∧ r = 0 ∧ k = 6)
theorem zk_R_takesBracket {W : Nat → Int → Int → Int → Prop} {S0 : Sg} (hW : ∀ g r k i, zr_R_takesBracket g r k i → W g r k i) : ∀ (x1 : Int) (S : Sg), Fm W S0 S → Kf W S0 (zf_R_takesBracket x1 S) := by
  intro x1 S h0
  unfold zf_R_takesBracket
  refine Kf.ite ?_ ?_
  · skip
    refine Kf.ite ?_ ?_
    · skip
      refine Kf.put h0 (hW _ _ _ _ (Or.inr (Or.inl ⟨rfl, rfl, rfl, rfl⟩))) (fun S3 h1 => ?_)
      refine Kf.bd ((zk_R_hold (fun g r k i h => hW g r k i (Or.elim h (fun h => (Or.inl ⟨h.1, h.2.1, h.2.2.1, h.2.2.2⟩)) (fun h => (Or.inr (Or.inr ⟨h.1, h.2.1, h.2.2⟩)))))) _ _ h1) (fun a4 S5 h2 => ?_)
      exact Kf.some h2
    · skip
      exact Kf.some h0
  · skip
    exact Kf.some h0
def zr_R_takesDigit (g : Nat) (r k i : Int) : Prop := (g = 3 ∧ r = 0 ∧ k = 4 ∧ i = 7) ∨ (g = 3 ∧ r = 0 ∧ k = 5)
theorem zk_R_takesDigit {W : Nat → Int → Int → Int → Prop} {S0 : Sg} (hW : ∀ g r k i, zr_R_takesDigit g r k i → W g r k i) : ∀ (x1 : Int) (S : Sg), Fm W S0 S → Kf W S0 (zf_R_takesDigit x1 S) := by
  intro x1 S h0
  unfold zf_R_takesDigit
  refine Kf.ite ?_ ?_
  · skip
    exact Kf.some h0
  · skip
    refine Kf.ite ?_ ?_
    · skip
      exact Kf.some h0
    · skip
      refine Kf.ite ?_ ?_
      · skip
        exact Kf.some h0
      · skip
        refine Kf.ite ?_ ?_
        · skip
          exact Kf.some h0
        · skip
          refine Kf.ite ?_ ?_
          · skip
            refine Kf.ck ?_
            refine Kf.lt (fun v7 => ?_)
            refine Kf.ite ?_ ?_
            · skip
              exact Kf.some h0
            · skip
              refine Kf.put h0 (hW _ _ _ _ (Or.inr ⟨rfl, rfl, rfl⟩)) (fun S9 h2 => ?_)
              refine Kf.put h2 (hW _ _ _ _ (Or.inl ⟨rfl, rfl, rfl, rfl⟩)) (fun S10 h3 => ?_)
              exact Kf.some h3
          · skip
            exact Kf.some h0
def zr_R_strength (g : Nat) (r k i : Int) : Prop := False
theorem zk_R_strength {W : Nat → Int → Int → Int → Prop} {S0 : Sg} (hW : ∀ g r k i, zr_R_strength g r k i → W g r k i) : ∀ (x0 : Int) (S : Sg), Fm W S0 S → Kf W S0 (zf_R_strength x0 S) := by
  intro x0 S h0
  unfold zf_R_strength
  refine Kf.ite ?_ ?_
  · skip
    exact Kf.some h0
  · skip
    refine Kf.ite ?_ ?_
    · skip
      exact Kf.some h0
    · skip
      refine Kf.ite ?_ ?_
      · skip
        exact Kf.some h0
      · skip
        refine Kf.ite ?_ ?_
        · skip
          exact Kf.some h0
        · skip
          refine Kf.ite ?_ ?_
          · skip
            exact Kf.some h0
          · skip
            refine Kf.ite ?_ ?_
            · skip
              exact Kf.some h0
            · skip
              refine Kf.ite ?_ ?_
              · skip
                exact Kf.some h0
              · skip
                refine Kf.ite ?_ ?_
                · skip
                  exact Kf.some h0
                · skip
                  exact Kf.some h0
def zr_R_unwind (g : Nat) (r k i : Int) : Prop := (g = 3 ∧ r = 0 ∧ k = 4 ∧ i = 2) ∨ (g = 3 ∧ r = 0 ∧ k = 4 ∧ i = 4) ∨ (g = 3 ∧ r = 0 ∧ k = 5)
theorem zk_R_unwind_5 {W : Nat → Int → Int → Int → Prop} {S0 : Sg} (hW : ∀ g r k i, zr_R_unwind g r k i → W g r k i) : ∀ (n : Nat) (x2 : Int) (S : Sg), Fm W S0 S → Kf W S0 (zf_R_unwind_5 n x2 S) := by
  intro n
  induction n with
  | zero => intro x2 S h0; exact Kf.none
  | succ n ih =>
    intro x2 S h0
    rw [zf_R_unwind_5]
    refine Kf.ite ?_ ?_
    · skip
      exact Kf.some h0
    · skip
      refine Kf.ck ?_
      refine Kf.bd ((zk_R_strength (fun _ _ _ _ h => h.elim)) _ _ h0) (fun a3 S4 h1 => ?_)
      refine Kf.ite ?_ ?_
      · skip
        exact Kf.some h1
      · skip
        refine Kf.put h1 (hW _ _ _ _ (Or.inr (Or.inl ⟨rfl, rfl, rfl, rfl⟩))) (fun S6 h2 => ?_)
        refine Kf.ck ?_
        refine Kf.bd ((zk_R_write (fun g r k i h => hW g r k i (Or.elim h (fun h => (Or.inl ⟨h.1, h.2.1, h.2.2.1, h.2.2.2⟩)) (fun h => (Or.inr (Or.inr ⟨h.1, h.2.1, h.2.2⟩)))))) _ _ h2) (fun a8 S9 h3 => ?_)
        exact ih _ _ h3
theorem zk_R_unwind {W : Nat → Int → Int → Int → Prop} {S0 : Sg} (hW : ∀ g r k i, zr_R_unwind g r k i → W g r k i) : ∀ (x1 : Int) (S : Sg), Fm W S0 S → Kf W S0 (zf_R_unwind x1 S) := by
  intro x1 S h0
  unfold zf_R_unwind
  refine Kf.bd ((zk_R_strength (fun _ _ _ _ h => h.elim)) _ _ h0) (fun a1 S2 h1 => ?_)
  exact (zk_R_unwind_5 hW) 4096 _ _ h1
def zr_R_takesJoint (g : Nat) (r k i : Int) : Prop := (g = 3 ∧ r = 0 ∧ k = 4 ∧ i = 2) ∨ (g = 3 ∧ r = 0 ∧ k = 4 ∧ i = 4) ∨ (g = 3 ∧ r = 0 ∧ k = 4 ∧ i = 5) ∨ (g = 3 ∧ r = 0 ∧ k = 4 ∧ i = 6) ∨ (g = 3 ∧ r = 0 ∧ k = 5) ∨ (g = 3 ∧ r = 0 ∧ k = 6)
theorem zk_R_takesJoint_78 {W : Nat → Int → Int → Int → Prop} {S0 : Sg} (hW : ∀ g r k i, zr_R_takesJoint g r k i → W g r k i) : ∀ (xt0 : Int) (S : Sg), Fm W S0 S → Kf W S0 (zf_R_takesJoint_78 xt0 S) := by
  intro xt0 S h0
  unfold zf_R_takesJoint_78
  refine Kf.bd ((zk_R_unwind (fun g r k i h => hW g r k i (Or.elim h (fun h => (Or.inl ⟨h.1, h.2.1, h.2.2.1, h.2.2.2⟩)) (fun h => (Or.elim h (fun h => (Or.inr (Or.inl ⟨h.1, h.2.1, h.2.2.1, h.2.2.2⟩))) (fun h => (Or.inr (Or.inr (Or.inr (Or.inr (Or.inl ⟨h.1, h.2.1, h.2.2⟩))))))))))) _ _ h0) (fun a1 S2 h1 => ?_)
  refine Kf.bd ((zk_R_hold (fun g r k i h => hW g r k i (Or.elim h (fun h => (Or.inr (Or.inl ⟨h.1, h.2.1, h.2.2.1, h.2.2.2⟩))) (fun h => (Or.inr (Or.inr (Or.inr (Or.inr (Or.inr ⟨h.1, h.2.1, h.2.2⟩))))))))) _ _ h1) (fun a3 S4 h2 => ?_)
  refine Kf.put h2 (hW _ _ _ _ (Or.inr (Or.inr (Or.inl ⟨rfl, rfl, rfl, rfl⟩)))) (fun S5 h3 => ?_)
  exact Kf.some h3
theorem zk_R_takesJoint_65 {W : Nat → Int → Int → Int → Prop} {S0 : Sg} (hW : ∀ g r k i, zr_R_takesJoint g r k i → W g r k i) : ∀ (x1 : Int) (S : Sg), Fm W S0 S → Kf W S0 (zf_R_takesJoint_65 x1 S) := by
  intro x1 S h0
  unfold zf_R_takesJoint_65
  refine Kf.ite ?_ ?_
  · skip
    exact (zk_R_takesJoint_78 hW) _ _ h0
  · skip
    exact (zk_R_takesJoint_78 hW) _ _ h0
theorem zk_R_takesJoint_51 {W : Nat → Int → Int → Int → Prop} {S0 : Sg} (hW : ∀ g r k i, zr_R_takesJoint g r k i → W g r k i) : ∀ (x1 : Int) (S : Sg), Fm W S0 S → Kf W S0 (zf_R_takesJoint_51 x1 S) := by
  intro x1 S h0
  unfold zf_R_takesJoint_51
  refine Kf.ite ?_ ?_
  · skip
    exact (zk_R_takesJoint_65 hW) _ _ h0
  · skip
    refine Kf.ite ?_ ?_
    · skip
      exact (zk_R_takesJoint_65 hW) _ _ h0
    · skip
      exact Kf.some h0
theorem zk_R_takesJoint {W : Nat → Int → Int → Int → Prop} {S0 : Sg} (hW : ∀ g r k i, zr_R_takesJoint g r k i → W g r k i) : ∀ (x1 : Int) (S : Sg), Fm W S0 S → Kf W S0 (zf_R_takesJoint x1 S) := by
  intro x1 S h0
  unfold zf_R_takesJoint
  refine Kf.ite ?_ ?_
  · skip
    refine Kf.ite ?_ ?_
    · skip
      exact (zk_R_takesJoint_51 hW) _ _ h0
    · skip
      refine Kf.bd ((zk_R_unwind (fun g r k i h => hW g r k i (Or.elim h (fun h => (Or.inl ⟨h.1, h.2.1, h.2.2.1, h.2.2.2⟩)) (fun h => (Or.elim h (fun h => (Or.inr (Or.inl ⟨h.1, h.2.1, h.2.2.1, h.2.2.2⟩))) (fun h => (Or.inr (Or.inr (Or.inr (Or.inr (Or.inl ⟨h.1, h.2.1, h.2.2⟩))))))))))) _ _ h0) (fun a3 S4 h1 => ?_)
      refine Kf.put h1 (hW _ _ _ _ (Or.inr (Or.inl ⟨rfl, rfl, rfl, rfl⟩))) (fun S5 h2 => ?_)
      refine Kf.put h2 (hW _ _ _ _ (Or.inr (Or.inr (Or.inr (Or.inl ⟨rfl, rfl, rfl, rfl⟩))))) (fun S6 h3 => ?_)
      refine Kf.put h3 (hW _ _ _ _ (Or.inr (Or.inr (Or.inl ⟨rfl, rfl, rfl, rfl⟩)))) (fun S7 h4 => ?_)
      exact Kf.some h4
  · skip
    exact (zk_R_takesJoint_51 hW) _ _ h0
def zr_R_takesNot (g : Nat) (r k i : Int) : Prop := (g = 3 ∧ r = 0 ∧ k = 4 ∧ i = 4) ∨ (g = 3 ∧ r = 0 ∧ k = 6)
theorem zk_R_takesNot {W : Nat → Int → Int → Int → Prop} {S0 : Sg} (hW : ∀ g r k i, zr_R_takesNot g r k i → W g r k i) : ∀ (x1 : Int) (S : Sg), Fm W S0 S → Kf W S0 (zf_R_takesNot x1 S) := by
  intro x1 S h0
  unfold zf_R_takesNot
  refine Kf.ite ?_ ?_
  · skip
    refine Kf.bd ((zk_R_hold (fun g r k i h => hW g r k i (Or.elim h (fun h => (Or.inl ⟨h.1, h.2.1, h.2.2.1, h.2.2.2⟩)) (fun h => (Or.inr ⟨h.1, h.2.1, h.2.2⟩))))) _ _ h0) (fun a2 S3 h1 => ?_)
    exact Kf.some h1
  · skip
    exact Kf.some h0
def zr_R_takesSign (g : Nat) (r k i : Int) : Prop := (g = 3 ∧ r = 0 ∧ k = 4 ∧ i = 2) ∨ (g = 3 ∧ r = 0 ∧ k = 4 ∧ i = 4) ∨ (g = 3 ∧ r = 0 ∧ k = 4 ∧ i = 5) ∨ (g = 3 ∧ r = 0 ∧ k = 5) ∨ (g = 3 ∧ r = 0 ∧ k = 6)
theorem zk_R_takesSign_34 {W : Nat → Int → Int → Int → Prop} {S0 : Sg} (hW : ∀ g r k i, zr_R_takesSign g r k i → W g r k i) : ∀ (x2 : Int) (xt1 : Int) (S : Sg), Fm W S0 S → Kf W S0 (zf_R_takesSign_34 x2 xt1 S) := by
  intro x2 xt1 S h0
  unfold zf_R_takesSign_34
  refine Kf.bd ((zk_R_hold (fun g r k i h => hW g r k i (Or.elim h (fun h => (Or.inr (Or.inl ⟨h.1, h.2.1, h.2.2.1, h.2.2.2⟩))) (fun h => (Or.inr (Or.inr (Or.inr (Or.inr ⟨h.1, h.2.1, h.2.2⟩)))))))) _ _ h0) (fun a1 S2 h1 => ?_)
  refine Kf.put h1 (hW _ _ _ _ (Or.inr (Or.inr (Or.inl ⟨rfl, rfl, rfl, rfl⟩)))) (fun S3 h2 => ?_)
  exact Kf.some h2
theorem zk_R_takesSign_14 {W : Nat → Int → Int → Int → Prop} {S0 : Sg} (hW : ∀ g r k i, zr_R_takesSign g r k i → W g r k i) : ∀ (x1 : Int) (x2 : Int) (S : Sg), Fm W S0 S → Kf W S0 (zf_R_takesSign_14 x1 x2 S) := by
  intro x1 x2 S h0
  unfold zf_R_takesSign_14
  refine Kf.bd ((zk_R_unwind (fun g r k i h => hW g r k i (Or.elim h (fun h => (Or.inl ⟨h.1, h.2.1, h.2.2.1, h.2.2.2⟩)) (fun h => (Or.elim h (fun h => (Or.inr (Or.inl ⟨h.1, h.2.1, h.2.2.1, h.2.2.2⟩))) (fun h => (Or.inr (Or.inr (Or.inr (Or.inl ⟨h.1, h.2.1, h.2.2⟩)))))))))) _ _ h0) (fun a1 S2 h1 => ?_)
  refine Kf.ite ?_ ?_
  · skip
    exact (zk_R_takesSign_34 hW) _ _ _ h1
  · skip
    exact (zk_R_takesSign_34 hW) _ _ _ h1
theorem zk_R_takesSign {W : Nat → Int → Int → Int → Prop} {S0 : Sg} (hW : ∀ g r k i, zr_R_takesSign g r k i → W g r k i) : ∀ (x1 : Int) (x2 : Int) (S : Sg), Fm W S0 S → Kf W S0 (zf_R_takesSign x1 x2 S) := by
  intro x1 x2 S h0
  unfold zf_R_takesSign
  refine Kf.ite ?_ ?_
  · skip
    exact (zk_R_takesSign_14 hW) _ _ _ h0
  · skip
    refine Kf.ite ?_ ?_
    · skip
      exact (zk_R_takesSign_14 hW) _ _ _ h0
    · skip
      exact Kf.some h0
def zr_R_takesSubject (g : Nat) (r k i : Int) : Prop := (g = 3 ∧ r = 0 ∧ k = 4 ∧ i = 0) ∨ (g = 3 ∧ r = 0 ∧ k = 4 ∧ i = 5)
theorem zk_R_takesSubject {W : Nat → Int → Int → Int → Prop} {S0 : Sg} (hW : ∀ g r k i, zr_R_takesSubject g r k i → W g r k i) : ∀ (x1 : Int) (S : Sg), Fm W S0 S → Kf W S0 (zf_R_takesSubject x1 S) := by
  intro x1 S h0
  unfold zf_R_takesSubject
  refine Kf.put h0 (hW _ _ _ _ (Or.inr ⟨rfl, rfl, rfl, rfl⟩)) (fun S1 h1 => ?_)
  refine Kf.ite ?_ ?_
  · skip
    refine Kf.put h1 (hW _ _ _ _ (Or.inl ⟨rfl, rfl, rfl, rfl⟩)) (fun S3 h2 => ?_)
    exact Kf.some h2
  · skip
    refine Kf.ite ?_ ?_
    · skip
      refine Kf.put h1 (hW _ _ _ _ (Or.inl ⟨rfl, rfl, rfl, rfl⟩)) (fun S5 h3 => ?_)
      exact Kf.some h3
    · skip
      refine Kf.ite ?_ ?_
      · skip
        refine Kf.put h1 (hW _ _ _ _ (Or.inl ⟨rfl, rfl, rfl, rfl⟩)) (fun S7 h4 => ?_)
        exact Kf.some h4
      · skip
        refine Kf.ite ?_ ?_
        · skip
          refine Kf.put h1 (hW _ _ _ _ (Or.inl ⟨rfl, rfl, rfl, rfl⟩)) (fun S9 h5 => ?_)
          exact Kf.some h5
        · skip
          exact Kf.some h1
def zr_R_takesTest (g : Nat) (r k i : Int) : Prop := (g = 3 ∧ r = 0 ∧ k = 4 ∧ i = 2) ∨ (g = 3 ∧ r = 0 ∧ k = 4 ∧ i = 4) ∨ (g = 3 ∧ r = 0 ∧ k = 4 ∧ i = 5) ∨ (g = 3 ∧ r = 0 ∧ k = 5) ∨ (g = 3 ∧ r = 0 ∧ k = 6)
theorem zk_R_takesTest_51 {W : Nat → Int → Int → Int → Prop} {S0 : Sg} (hW : ∀ g r k i, zr_R_takesTest g r k i → W g r k i) : ∀ (xt1 : Int) (S : Sg), Fm W S0 S → Kf W S0 (zf_R_takesTest_51 xt1 S) := by
  intro xt1 S h0
  unfold zf_R_takesTest_51
  refine Kf.bd ((zk_R_hold (fun g r k i h => hW g r k i (Or.elim h (fun h => (Or.inr (Or.inl ⟨h.1, h.2.1, h.2.2.1, h.2.2.2⟩))) (fun h => (Or.inr (Or.inr (Or.inr (Or.inr ⟨h.1, h.2.1, h.2.2⟩)))))))) _ _ h0) (fun a1 S2 h1 => ?_)
  refine Kf.put h1 (hW _ _ _ _ (Or.inr (Or.inr (Or.inl ⟨rfl, rfl, rfl, rfl⟩)))) (fun S3 h2 => ?_)
  exact Kf.some h2
theorem zk_R_takesTest_20 {W : Nat → Int → Int → Int → Prop} {S0 : Sg} (hW : ∀ g r k i, zr_R_takesTest g r k i → W g r k i) : ∀ (x1 : Int) (S : Sg), Fm W S0 S → Kf W S0 (zf_R_takesTest_20 x1 S) := by
  intro x1 S h0
  unfold zf_R_takesTest_20
  refine Kf.bd ((zk_R_unwind (fun g r k i h => hW g r k i (Or.elim h (fun h => (Or.inl ⟨h.1, h.2.1, h.2.2.1, h.2.2.2⟩)) (fun h => (Or.elim h (fun h => (Or.inr (Or.inl ⟨h.1, h.2.1, h.2.2.1, h.2.2.2⟩))) (fun h => (Or.inr (Or.inr (Or.inr (Or.inl ⟨h.1, h.2.1, h.2.2⟩)))))))))) _ _ h0) (fun a1 S2 h1 => ?_)
  refine Kf.ite ?_ ?_
  · skip
    exact (zk_R_takesTest_51 hW) _ _ h1
  · skip
    refine Kf.ite ?_ ?_
    · skip
      exact (zk_R_takesTest_51 hW) _ _ h1
    · skip
      exact (zk_R_takesTest_51 hW) _ _ h1
theorem zk_R_takesTest {W : Nat → Int → Int → Int → Prop} {S0 : Sg} (hW : ∀ g r k i, zr_R_takesTest g r k i → W g r k i) : ∀ (x1 : Int) (S : Sg), Fm W S0 S → Kf W S0 (zf_R_takesTest x1 S) := by
  intro x1 S h0
  unfold zf_R_takesTest
  refine Kf.ite ?_ ?_
  · skip
    exact (zk_R_takesTest_20 hW) _ _ h0
  · skip
    refine Kf.ite ?_ ?_
    · skip
      exact (zk_R_takesTest_20 hW) _ _ h0
    · skip
      refine Kf.ite ?_ ?_
      · skip
        exact (zk_R_takesTest_20 hW) _ _ h0
      · skip
        exact Kf.some h0
def zr_R_takes (g : Nat) (r k i : Int) : Prop := (g = 3 ∧ r = 0 ∧ k = 4 ∧ i = 0) ∨ (g = 3 ∧ r = 0 ∧ k = 4 ∧ i = 2) ∨ (g = 3 ∧ r = 0 ∧ k = 4 ∧ i = 4) ∨ (g = 3 ∧ r = 0 ∧ k = 4 ∧ i = 5) ∨ (g = 3 ∧ r = 0 ∧ k = 4 ∧ i = 6) ∨ (g = 3 ∧ r = 0 ∧ k = 4 ∧ i = 7) ∨ (g = 3 ∧ r = 0 ∧ k = 5) ∨ (g = 3 ∧ r = 0 ∧ k = 6)
theorem zk_R_takes_96 {W : Nat → Int → Int → Int → Prop} {S0 : Sg} (hW : ∀ g r k i, zr_R_takes g r k i → W g r k i) : ∀ (S : Sg), Fm W S0 S → Kf W S0 (zf_R_takes_96 S) := by
  intro S h0
  unfold zf_R_takes_96
  exact Kf.some h0
theorem zk_R_takes_142 {W : Nat → Int → Int → Int → Prop} {S0 : Sg} (hW : ∀ g r k i, zr_R_takes g r k i → W g r k i) : ∀ (S : Sg), Fm W S0 S → Kf W S0 (zf_R_takes_142 S) := by
  intro S h0
  unfold zf_R_takes_142
  exact Kf.some h0
theorem zk_R_takes_173 {W : Nat → Int → Int → Int → Prop} {S0 : Sg} (hW : ∀ g r k i, zr_R_takes g r k i → W g r k i) : ∀ (S : Sg), Fm W S0 S → Kf W S0 (zf_R_takes_173 S) := by
  intro S h0
  unfold zf_R_takes_173
  exact Kf.some h0
theorem zk_R_takes {W : Nat → Int → Int → Int → Prop} {S0 : Sg} (hW : ∀ g r k i, zr_R_takes g r k i → W g r k i) : ∀ (x1 : Int) (S : Sg), Fm W S0 S → Kf W S0 (zf_R_takes x1 S) := by
  intro x1 S h0
  unfold zf_R_takes
  refine Kf.lt (fun v1 => ?_)
  refine Kf.ite ?_ ?_
  · skip
    refine Kf.bd ((zk_R_takesSubject (fun g r k i h => hW g r k i (Or.elim h (fun h => (Or.inl ⟨h.1, h.2.1, h.2.2.1, h.2.2.2⟩)) (fun h => (Or.inr (Or.inr (Or.inr (Or.inl ⟨h.1, h.2.1, h.2.2.1, h.2.2.2⟩)))))))) _ _ h0) (fun a3 S4 h2 => ?_)
    refine Kf.ck ?_
    exact Kf.some h2
  · skip
    refine Kf.ite ?_ ?_
    · skip
      refine Kf.put h0 (hW _ _ _ _ (Or.inr (Or.inr (Or.inr (Or.inl ⟨rfl, rfl, rfl, rfl⟩))))) (fun S7 h3 => ?_)
      refine Kf.ite ?_ ?_
      · skip
        exact Kf.some h3
      · skip
        exact Kf.some h3
    · skip
      refine Kf.ite ?_ ?_
      · skip
        refine Kf.bd ((zk_R_takesNot (fun g r k i h => hW g r k i (Or.elim h (fun h => (Or.inr (Or.inr (Or.inl ⟨h.1, h.2.1, h.2.2.1, h.2.2.2⟩)))) (fun h => (Or.inr (Or.inr (Or.inr (Or.inr (Or.inr (Or.inr (Or.inr ⟨h.1, h.2.1, h.2.2⟩))))))))))) _ _ h0) (fun a10 S11 h4 => ?_)
        refine Kf.ite ?_ ?_
        · skip
          refine Kf.bd ((zk_R_takesBracket (fun g r k i h => hW g r k i (Or.elim h (fun h => (Or.inr (Or.inr (Or.inl ⟨h.1, h.2.1, h.2.2.1, h.2.2.2⟩)))) (fun h => (Or.elim h (fun h => (Or.inr (Or.inr (Or.inr (Or.inr (Or.inl ⟨h.1, h.2.1, h.2.2.1, h.2.2.2⟩)))))) (fun h => (Or.inr (Or.inr (Or.inr (Or.inr (Or.inr (Or.inr (Or.inr ⟨h.1, h.2.1, h.2.2⟩))))))))))))) _ _ h4) (fun a13 S14 h5 => ?_)
          refine Kf.ite ?_ ?_
          · skip
            refine Kf.bd ((zk_R_takesAtom (fun g r k i h => hW g r k i (Or.elim h (fun h => (Or.inr (Or.inl ⟨h.1, h.2.1, h.2.2.1, h.2.2.2⟩))) (fun h => (Or.elim h (fun h => (Or.inr (Or.inr (Or.inr (Or.inl ⟨h.1, h.2.1, h.2.2.1, h.2.2.2⟩))))) (fun h => (Or.elim h (fun h => (Or.inr (Or.inr (Or.inr (Or.inr (Or.inr (Or.inl ⟨h.1, h.2.1, h.2.2.1, h.2.2.2⟩))))))) (fun h => (Or.inr (Or.inr (Or.inr (Or.inr (Or.inr (Or.inr (Or.inl ⟨h.1, h.2.1, h.2.2⟩))))))))))))))) _ _ _ h5) (fun a16 S17 h6 => ?_)
            refine Kf.ite ?_ ?_
            · skip
              exact Kf.some h6
            · skip
              exact (zk_R_takes_96 hW) _ h6
          · skip
            exact (zk_R_takes_96 hW) _ h5
        · skip
          exact (zk_R_takes_96 hW) _ h4
      · skip
        refine Kf.ite ?_ ?_
        · skip
          refine Kf.bd ((zk_R_takesAtom (fun g r k i h => hW g r k i (Or.elim h (fun h => (Or.inr (Or.inl ⟨h.1, h.2.1, h.2.2.1, h.2.2.2⟩))) (fun h => (Or.elim h (fun h => (Or.inr (Or.inr (Or.inr (Or.inl ⟨h.1, h.2.1, h.2.2.1, h.2.2.2⟩))))) (fun h => (Or.elim h (fun h => (Or.inr (Or.inr (Or.inr (Or.inr (Or.inr (Or.inl ⟨h.1, h.2.1, h.2.2.1, h.2.2.2⟩))))))) (fun h => (Or.inr (Or.inr (Or.inr (Or.inr (Or.inr (Or.inr (Or.inl ⟨h.1, h.2.1, h.2.2⟩))))))))))))))) _ _ _ h0) (fun a20 S21 h7 => ?_)
          refine Kf.ck ?_
          exact Kf.some h7
        · skip
          refine Kf.ite ?_ ?_
          · skip
            refine Kf.bd ((zk_R_takesDigit (fun g r k i h => hW g r k i (Or.elim h (fun h => (Or.inr (Or.inr (Or.inr (Or.inr (Or.inr (Or.inl ⟨h.1, h.2.1, h.2.2.1, h.2.2.2⟩))))))) (fun h => (Or.inr (Or.inr (Or.inr (Or.inr (Or.inr (Or.inr (Or.inl ⟨h.1, h.2.1, h.2.2⟩))))))))))) _ _ h0) (fun a24 S25 h8 => ?_)
            refine Kf.ite ?_ ?_
            · skip
              refine Kf.bd ((zk_R_takesSign (fun g r k i h => hW g r k i (Or.elim h (fun h => (Or.inr (Or.inl ⟨h.1, h.2.1, h.2.2.1, h.2.2.2⟩))) (fun h => (Or.elim h (fun h => (Or.inr (Or.inr (Or.inl ⟨h.1, h.2.1, h.2.2.1, h.2.2.2⟩)))) (fun h => (Or.elim h (fun h => (Or.inr (Or.inr (Or.inr (Or.inl ⟨h.1, h.2.1, h.2.2.1, h.2.2.2⟩))))) (fun h => (Or.elim h (fun h => (Or.inr (Or.inr (Or.inr (Or.inr (Or.inr (Or.inr (Or.inl ⟨h.1, h.2.1, h.2.2⟩)))))))) (fun h => (Or.inr (Or.inr (Or.inr (Or.inr (Or.inr (Or.inr (Or.inr ⟨h.1, h.2.1, h.2.2⟩))))))))))))))))) _ _ _ h8) (fun a27 S28 h9 => ?_)
              refine Kf.ite ?_ ?_
              · skip
                refine Kf.bd ((zk_R_takesTest (fun g r k i h => hW g r k i (Or.elim h (fun h => (Or.inr (Or.inl ⟨h.1, h.2.1, h.2.2.1, h.2.2.2⟩))) (fun h => (Or.elim h (fun h => (Or.inr (Or.inr (Or.inl ⟨h.1, h.2.1, h.2.2.1, h.2.2.2⟩)))) (fun h => (Or.elim h (fun h => (Or.inr (Or.inr (Or.inr (Or.inl ⟨h.1, h.2.1, h.2.2.1, h.2.2.2⟩))))) (fun h => (Or.elim h (fun h => (Or.inr (Or.inr (Or.inr (Or.inr (Or.inr (Or.inr (Or.inl ⟨h.1, h.2.1, h.2.2⟩)))))))) (fun h => (Or.inr (Or.inr (Or.inr (Or.inr (Or.inr (Or.inr (Or.inr ⟨h.1, h.2.1, h.2.2⟩))))))))))))))))) _ _ h9) (fun a30 S31 h10 => ?_)
                refine Kf.ite ?_ ?_
                · skip
                  exact Kf.some h10
                · skip
                  exact (zk_R_takes_142 hW) _ h10
              · skip
                exact (zk_R_takes_142 hW) _ h9
            · skip
              exact (zk_R_takes_142 hW) _ h8
          · skip
            refine Kf.ite ?_ ?_
            · skip
              refine Kf.bd ((zk_R_takesAtom (fun g r k i h => hW g r k i (Or.elim h (fun h => (Or.inr (Or.inl ⟨h.1, h.2.1, h.2.2.1, h.2.2.2⟩))) (fun h => (Or.elim h (fun h => (Or.inr (Or.inr (Or.inr (Or.inl ⟨h.1, h.2.1, h.2.2.1, h.2.2.2⟩))))) (fun h => (Or.elim h (fun h => (Or.inr (Or.inr (Or.inr (Or.inr (Or.inr (Or.inl ⟨h.1, h.2.1, h.2.2.1, h.2.2.2⟩))))))) (fun h => (Or.inr (Or.inr (Or.inr (Or.inr (Or.inr (Or.inr (Or.inl ⟨h.1, h.2.1, h.2.2⟩))))))))))))))) _ _ _ h0) (fun a34 S35 h11 => ?_)
              refine Kf.ck ?_
              exact Kf.some h11
            · skip
              refine Kf.ite ?_ ?_
              · skip
                refine Kf.bd ((zk_R_takesDigit (fun g r k i h => hW g r k i (Or.elim h (fun h => (Or.inr (Or.inr (Or.inr (Or.inr (Or.inr (Or.inl ⟨h.1, h.2.1, h.2.2.1, h.2.2.2⟩))))))) (fun h => (Or.inr (Or.inr (Or.inr (Or.inr (Or.inr (Or.inr (Or.inl ⟨h.1, h.2.1, h.2.2⟩))))))))))) _ _ h0) (fun a38 S39 h12 => ?_)
                refine Kf.ite ?_ ?_
                · skip
                  refine Kf.bd ((zk_R_takesSign (fun g r k i h => hW g r k i (Or.elim h (fun h => (Or.inr (Or.inl ⟨h.1, h.2.1, h.2.2.1, h.2.2.2⟩))) (fun h => (Or.elim h (fun h => (Or.inr (Or.inr (Or.inl ⟨h.1, h.2.1, h.2.2.1, h.2.2.2⟩)))) (fun h => (Or.elim h (fun h => (Or.inr (Or.inr (Or.inr (Or.inl ⟨h.1, h.2.1, h.2.2.1, h.2.2.2⟩))))) (fun h => (Or.elim h (fun h => (Or.inr (Or.inr (Or.inr (Or.inr (Or.inr (Or.inr (Or.inl ⟨h.1, h.2.1, h.2.2⟩)))))))) (fun h => (Or.inr (Or.inr (Or.inr (Or.inr (Or.inr (Or.inr (Or.inr ⟨h.1, h.2.1, h.2.2⟩))))))))))))))))) _ _ _ h12) (fun a41 S42 h13 => ?_)
                  refine Kf.ite ?_ ?_
                  · skip
                    refine Kf.bd ((zk_R_takesJoint (fun g r k i h => hW g r k i (Or.elim h (fun h => (Or.inr (Or.inl ⟨h.1, h.2.1, h.2.2.1, h.2.2.2⟩))) (fun h => (Or.elim h (fun h => (Or.inr (Or.inr (Or.inl ⟨h.1, h.2.1, h.2.2.1, h.2.2.2⟩)))) (fun h => (Or.elim h (fun h => (Or.inr (Or.inr (Or.inr (Or.inl ⟨h.1, h.2.1, h.2.2.1, h.2.2.2⟩))))) (fun h => (Or.elim h (fun h => (Or.inr (Or.inr (Or.inr (Or.inr (Or.inl ⟨h.1, h.2.1, h.2.2.1, h.2.2.2⟩)))))) (fun h => (Or.elim h (fun h => (Or.inr (Or.inr (Or.inr (Or.inr (Or.inr (Or.inr (Or.inl ⟨h.1, h.2.1, h.2.2⟩)))))))) (fun h => (Or.inr (Or.inr (Or.inr (Or.inr (Or.inr (Or.inr (Or.inr ⟨h.1, h.2.1, h.2.2⟩))))))))))))))))))) _ _ h13) (fun a44 S45 h14 => ?_)
                    refine Kf.ite ?_ ?_
                    · skip
                      exact Kf.some h14
                    · skip
                      exact (zk_R_takes_173 hW) _ h14
                  · skip
                    exact (zk_R_takes_173 hW) _ h13
                · skip
                  exact (zk_R_takes_173 hW) _ h12
              · skip
                refine Kf.bd ((zk_R_takesJoint (fun g r k i h => hW g r k i (Or.elim h (fun h => (Or.inr (Or.inl ⟨h.1, h.2.1, h.2.2.1, h.2.2.2⟩))) (fun h => (Or.elim h (fun h => (Or.inr (Or.inr (Or.inl ⟨h.1, h.2.1, h.2.2.1, h.2.2.2⟩)))) (fun h => (Or.elim h (fun h => (Or.inr (Or.inr (Or.inr (Or.inl ⟨h.1, h.2.1, h.2.2.1, h.2.2.2⟩))))) (fun h => (Or.elim h (fun h => (Or.inr (Or.inr (Or.inr (Or.inr (Or.inl ⟨h.1, h.2.1, h.2.2.1, h.2.2.2⟩)))))) (fun h => (Or.elim h (fun h => (Or.inr (Or.inr (Or.inr (Or.inr (Or.inr (Or.inr (Or.inl ⟨h.1, h.2.1, h.2.2⟩)))))))) (fun h => (Or.inr (Or.inr (Or.inr (Or.inr (Or.inr (Or.inr (Or.inr ⟨h.1, h.2.1, h.2.2⟩))))))))))))))))))) _ _ h0) (fun a47 S48 h15 => ?_)
                refine Kf.ck ?_
                exact Kf.some h15
def zr_R_read (g1 : Nat) (k1 : Int) (r1 : Int) (n1 : Nat) (g : Nat) (r k i : Int) : Prop := (g = 3 ∧ r = 0 ∧ k = 4 ∧ i = 0) ∨ (g = 3 ∧ r = 0 ∧ k = 4 ∧ i = 2) ∨ (g = 3 ∧ r = 0 ∧ k = 4 ∧ i = 4) ∨ (g = 3 ∧ r = 0 ∧ k = 4 ∧ i = 5) ∨ (g = 3 ∧ r = 0 ∧ k = 4 ∧ i = 6) ∨ (g = 3 ∧ r = 0 ∧ k = 4 ∧ i = 7) ∨ (g = 3 ∧ r = 0 ∧ k = 5) ∨ (g = 3 ∧ r = 0 ∧ k = 6)
theorem zk_R_read_88 {W : Nat → Int → Int → Int → Prop} {S0 : Sg} {g1 : Nat} {k1 : Int} {r1 : Int} {n1 : Nat} (hW : ∀ g r k i, zr_R_read g1 k1 r1 n1 g r k i → W g r k i) : ∀ (S : Sg), Fm W S0 S → Kf W S0 (zf_R_read_88 g1 r1 k1 n1 S) := by
  intro S h0
  unfold zf_R_read_88
  refine Kf.bd ((zk_R_unwind (fun g r k i h => hW g r k i (Or.elim h (fun h => (Or.inr (Or.inl ⟨h.1, h.2.1, h.2.2.1, h.2.2.2⟩))) (fun h => (Or.elim h (fun h => (Or.inr (Or.inr (Or.inl ⟨h.1, h.2.1, h.2.2.1, h.2.2.2⟩)))) (fun h => (Or.inr (Or.inr (Or.inr (Or.inr (Or.inr (Or.inr (Or.inl ⟨h.1, h.2.1, h.2.2⟩))))))))))))) _ _ h0) (fun a1 S2 h1 => ?_)
  exact Kf.some h1
theorem zk_R_read_61 {W : Nat → Int → Int → Int → Prop} {S0 : Sg} {g1 : Nat} {k1 : Int} {r1 : Int} {n1 : Nat} (hW : ∀ g r k i, zr_R_read g1 k1 r1 n1 g r k i → W g r k i) : ∀ (x2 : Int) (S : Sg), Fm W S0 S → Kf W S0 (zf_R_read_61 g1 r1 k1 n1 x2 S) := by
  intro x2 S h0
  unfold zf_R_read_61
  refine Kf.ite ?_ ?_
  · skip
    exact Kf.some h0
  · skip
    refine Kf.ite ?_ ?_
    · skip
      exact (zk_R_read_88 (g1 := g1) (r1 := r1) (k1 := k1) (n1 := n1) hW) _ h0
    · skip
      refine Kf.ite ?_ ?_
      · skip
        exact (zk_R_read_88 (g1 := g1) (r1 := r1) (k1 := k1) (n1 := n1) hW) _ h0
      · skip
        exact Kf.some h0
theorem zk_R_read_32 {W : Nat → Int → Int → Int → Prop} {S0 : Sg} {g1 : Nat} {k1 : Int} {r1 : Int} {n1 : Nat} (hW : ∀ g r k i, zr_R_read g1 k1 r1 n1 g r k i → W g r k i) : ∀ (n : Nat) (x2 x3 : Int) (S : Sg), Fm W S0 S → Kf W S0 (zf_R_read_32 g1 r1 k1 n1 n x2 x3 S) := by
  intro n
  induction n with
  | zero => intro x2 x3 S h0; exact Kf.none
  | succ n ih =>
    intro x2 x3 S h0
    rw [zf_R_read_32]
    refine Kf.ite ?_ ?_
    · skip
      exact (zk_R_read_61 (g1 := g1) (r1 := r1) (k1 := k1) (n1 := n1) hW) _ _ h0
    · skip
      refine Kf.ite ?_ ?_
      · skip
        exact (zk_R_read_61 (g1 := g1) (r1 := r1) (k1 := k1) (n1 := n1) hW) _ _ h0
      · skip
        refine Kf.ck ?_
        refine Kf.bd ((zk_R_takes (fun g r k i h => hW g r k i (Or.elim h (fun h => (Or.inl ⟨h.1, h.2.1, h.2.2.1, h.2.2.2⟩)) (fun h => (Or.elim h (fun h => (Or.inr (Or.inl ⟨h.1, h.2.1, h.2.2.1, h.2.2.2⟩))) (fun h => (Or.elim h (fun h => (Or.inr (Or.inr (Or.inl ⟨h.1, h.2.1, h.2.2.1, h.2.2.2⟩)))) (fun h => (Or.elim h (fun h => (Or.inr (Or.inr (Or.inr (Or.inl ⟨h.1, h.2.1, h.2.2.1, h.2.2.2⟩))))) (fun h => (Or.elim h (fun h => (Or.inr (Or.inr (Or.inr (Or.inr (Or.inl ⟨h.1, h.2.1, h.2.2.1, h.2.2.2⟩)))))) (fun h => (Or.elim h (fun h => (Or.inr (Or.inr (Or.inr (Or.inr (Or.inr (Or.inl ⟨h.1, h.2.1, h.2.2.1, h.2.2.2⟩))))))) (fun h => (Or.elim h (fun h => (Or.inr (Or.inr (Or.inr (Or.inr (Or.inr (Or.inr (Or.inl ⟨h.1, h.2.1, h.2.2⟩)))))))) (fun h => (Or.inr (Or.inr (Or.inr (Or.inr (Or.inr (Or.inr (Or.inr ⟨h.1, h.2.1, h.2.2⟩))))))))))))))))))))))) _ _ h0) (fun a4 S5 h1 => ?_)
        refine Kf.ite ?_ ?_
        · skip
          exact Kf.some h1
        · skip
          refine Kf.lt (fun v7 => ?_)
          exact ih _ _ _ h1
theorem zk_R_read {W : Nat → Int → Int → Int → Prop} {S0 : Sg} {g1 : Nat} {k1 : Int} {r1 : Int} {n1 : Nat} (hW : ∀ g r k i, zr_R_read g1 k1 r1 n1 g r k i → W g r k i) : ∀ (x2 : Int) (S : Sg), Fm W S0 S → Kf W S0 (zf_R_read g1 r1 k1 n1 x2 S) := by
  intro x2 S h0
  unfold zf_R_read
  refine Kf.put h0 (hW _ _ _ _ (Or.inl ⟨rfl, rfl, rfl, rfl⟩)) (fun S1 h1 => ?_)
  refine Kf.put h1 (hW _ _ _ _ (Or.inr (Or.inl ⟨rfl, rfl, rfl, rfl⟩))) (fun S2 h2 => ?_)
  refine Kf.put h2 (hW _ _ _ _ (Or.inr (Or.inr (Or.inl ⟨rfl, rfl, rfl, rfl⟩)))) (fun S3 h3 => ?_)
  refine Kf.put h3 (hW _ _ _ _ (Or.inr (Or.inr (Or.inr (Or.inl ⟨rfl, rfl, rfl, rfl⟩))))) (fun S4 h4 => ?_)
  refine Kf.put h4 (hW _ _ _ _ (Or.inr (Or.inr (Or.inr (Or.inr (Or.inl ⟨rfl, rfl, rfl, rfl⟩)))))) (fun S5 h5 => ?_)
  refine Kf.put h5 (hW _ _ _ _ (Or.inr (Or.inr (Or.inr (Or.inr (Or.inr (Or.inl ⟨rfl, rfl, rfl, rfl⟩))))))) (fun S6 h6 => ?_)
  exact (zk_R_read_32 (g1 := g1) (r1 := r1) (k1 := k1) (n1 := n1) hW) 4096 _ _ _ h6
def zr_S_holdsText (r0 : Int) (g : Nat) (r k i : Int) : Prop := False
theorem zk_S_holdsText {W : Nat → Int → Int → Int → Prop} {S0 : Sg} {r0 : Int} (hW : ∀ g r k i, zr_S_holdsText r0 g r k i → W g r k i) : ∀ (S : Sg), Fm W S0 S → Kf W S0 (zf_S_holdsText r0 S) := by
  intro S h0
  unfold zf_S_holdsText
  refine Kf.ite ?_ ?_
  · skip
    refine Kf.ite ?_ ?_
    · skip
      exact Kf.some h0
    · skip
      exact Kf.some h0
  · skip
    exact Kf.some h0
def zr_O_fault (g : Nat) (r k i : Int) : Prop := (g = 3 ∧ r = 0 ∧ k = 4 ∧ i = 0) ∨ (g = 3 ∧ r = 0 ∧ k = 4 ∧ i = 2) ∨ (g = 3 ∧ r = 0 ∧ k = 4 ∧ i = 4) ∨ (g = 3 ∧ r = 0 ∧ k = 4 ∧ i = 5) ∨ (g = 3 ∧ r = 0 ∧ k = 4 ∧ i = 6) ∨ (g = 3 ∧ r = 0 ∧ k = 4 ∧ i = 7) ∨ (g = 3 ∧ r = 0 ∧ k = 5) ∨ (g = 3 ∧ r = 0 ∧ k = 6)
theorem zk_O_fault {W : Nat → Int → Int → Int → Prop} {S0 : Sg} (hW : ∀ g r k i, zr_O_fault g r k i → W g r k i) : ∀ (x1 : Int) (S : Sg), Fm W S0 S → Kf W S0 (zf_O_fault x1 S) := by
  intro x1 S h0
  unfold zf_O_fault
  refine Kf.bd ((zk_O_isShelf (fun _ _ _ _ h => h.elim)) _ _ h0) (fun a1 S2 h1 => ?_)
  refine Kf.ite ?_ ?_
  · skip
    exact Kf.some h1
  · skip
    refine Kf.ck ?_
    refine Kf.ite ?_ ?_
    · skip
      exact Kf.some h1
    · skip
      refine Kf.bd ((zk_S_holdsText (r0 := (x1)) (fun _ _ _ _ h => h.elim)) _ h1) (fun a6 S7 h2 => ?_)
      refine Kf.ite ?_ ?_
      · skip
        exact Kf.some h2
      · skip
        refine Kf.bd ((zk_R_read (g1 := 2) (r1 := (x1)) (k1 := (1)) (n1 := 120) (fun g r k i h => hW g r k i (Or.elim h (fun h => (Or.inl ⟨h.1, h.2.1, h.2.2.1, h.2.2.2⟩)) (fun h => (Or.elim h (fun h => (Or.inr (Or.inl ⟨h.1, h.2.1, h.2.2.1, h.2.2.2⟩))) (fun h => (Or.elim h (fun h => (Or.inr (Or.inr (Or.inl ⟨h.1, h.2.1, h.2.2.1, h.2.2.2⟩)))) (fun h => (Or.elim h (fun h => (Or.inr (Or.inr (Or.inr (Or.inl ⟨h.1, h.2.1, h.2.2.1, h.2.2.2⟩))))) (fun h => (Or.elim h (fun h => (Or.inr (Or.inr (Or.inr (Or.inr (Or.inl ⟨h.1, h.2.1, h.2.2.1, h.2.2.2⟩)))))) (fun h => (Or.elim h (fun h => (Or.inr (Or.inr (Or.inr (Or.inr (Or.inr (Or.inl ⟨h.1, h.2.1, h.2.2.1, h.2.2.2⟩))))))) (fun h => (Or.elim h (fun h => (Or.inr (Or.inr (Or.inr (Or.inr (Or.inr (Or.inr (Or.inl ⟨h.1, h.2.1, h.2.2⟩)))))))) (fun h => (Or.inr (Or.inr (Or.inr (Or.inr (Or.inr (Or.inr (Or.inr ⟨h.1, h.2.1, h.2.2⟩))))))))))))))))))))))) _ _ h2) (fun a9 S10 h3 => ?_)
        exact Kf.some h3
def zr_J_allowsWithoutLaw (r0 : Int) (g : Nat) (r k i : Int) : Prop := False
theorem zk_J_allowsWithoutLaw {W : Nat → Int → Int → Int → Prop} {S0 : Sg} {r0 : Int} (hW : ∀ g r k i, zr_J_allowsWithoutLaw r0 g r k i → W g r k i) : ∀ (x1 : Int) (x2 : Int) (S : Sg), Fm W S0 S → Kf W S0 (zf_J_allowsWithoutLaw r0 x1 x2 S) := by
  intro x1 x2 S h0
  unfold zf_J_allowsWithoutLaw
  refine Kf.ite ?_ ?_
  · skip
    refine Kf.bd ((zk_P_age (r0 := (r0)) (fun _ _ _ _ h => h.elim)) _ _ _ h0) (fun a3 S4 h1 => ?_)
    refine Kf.ite ?_ ?_
    · skip
      exact Kf.some h1
    · skip
      exact Kf.some h1
  · skip
    refine Kf.ite ?_ ?_
    · skip
      exact Kf.some h0
    · skip
      exact Kf.some h0
def zr_Ji_bitCount (g : Nat) (r k i : Int) : Prop := False
theorem zk_Ji_bitCount {W : Nat → Int → Int → Int → Prop} {S0 : Sg} (hW : ∀ g r k i, zr_Ji_bitCount g r k i → W g r k i) : ∀ (x0 : Int) (S : Sg), Fm W S0 S → Kf W S0 (zf_Ji_bitCount x0 S) := by
  intro x0 S h0
  unfold zf_Ji_bitCount
  refine Kf.lt (fun v1 => ?_)
  refine Kf.lt (fun v2 => ?_)
  refine Kf.lt (fun v3 => ?_)
  refine Kf.lt (fun v4 => ?_)
  refine Kf.lt (fun v5 => ?_)
  exact Kf.some h0
def zr_J_look (r1 : Int) (g : Nat) (r k i : Int) : Prop := (g = 3 ∧ r = 0 ∧ k = 8)
theorem zk_J_look {W : Nat → Int → Int → Int → Prop} {S0 : Sg} {r1 : Int} (hW : ∀ g r k i, zr_J_look r1 g r k i → W g r k i) : ∀ (x2 : Int) (S : Sg), Fm W S0 S → Kf W S0 (zf_J_look r1 x2 S) := by
  intro x2 S h0
  unfold zf_J_look
  refine Kf.ck ?_
  refine Kf.lt (fun v2 => ?_)
  refine Kf.bd ((zk_P_age (r0 := (r1)) (fun _ _ _ _ h => h.elim)) _ _ _ h0) (fun a3 S4 h2 => ?_)
  refine Kf.put h2 (hW _ _ _ _ ⟨rfl, rfl, rfl⟩) (fun S5 h3 => ?_)
  refine Kf.bd ((zk_P_kind (r0 := (r1)) (fun _ _ _ _ h => h.elim)) _ _ _ h3) (fun a6 S7 h4 => ?_)
  refine Kf.put h4 (hW _ _ _ _ ⟨rfl, rfl, rfl⟩) (fun S8 h5 => ?_)
  refine Kf.bd ((zk_P_headsOf (r0 := (r1)) (fun _ _ _ _ h => h.elim)) _ _ h5) (fun a9 S10 h6 => ?_)
  refine Kf.put h6 (hW _ _ _ _ ⟨rfl, rfl, rfl⟩) (fun S11 h7 => ?_)
  refine Kf.ck ?_
  refine Kf.put h7 (hW _ _ _ _ ⟨rfl, rfl, rfl⟩) (fun S13 h8 => ?_)
  refine Kf.bd ((zk_Ji_bitCount (fun _ _ _ _ h => h.elim)) _ _ h8) (fun a14 S15 h9 => ?_)
  refine Kf.put h9 (hW _ _ _ _ ⟨rfl, rfl, rfl⟩) (fun S16 h10 => ?_)
  refine Kf.put h10 (hW _ _ _ _ ⟨rfl, rfl, rfl⟩) (fun S17 h11 => ?_)
  refine Kf.put h11 (hW _ _ _ _ ⟨rfl, rfl, rfl⟩) (fun S18 h12 => ?_)
  exact Kf.some h12
def zr_J_joined (g : Nat) (r k i : Int) : Prop := False
theorem zk_J_joined {W : Nat → Int → Int → Int → Prop} {S0 : Sg} (hW : ∀ g r k i, zr_J_joined g r k i → W g r k i) : ∀ (x0 : Int) (x1 : Int) (x2 : Int) (S : Sg), Fm W S0 S → Kf W S0 (zf_J_joined x0 x1 x2 S) := by
  intro x0 x1 x2 S h0
  unfold zf_J_joined
  refine Kf.ite ?_ ?_
  · skip
    exact Kf.some h0
  · skip
    refine Kf.ite ?_ ?_
    · skip
      refine Kf.ite ?_ ?_
      · skip
        exact Kf.some h0
      · skip
        exact Kf.some h0
    · skip
      refine Kf.ite ?_ ?_
      · skip
        refine Kf.ite ?_ ?_
        · skip
          exact Kf.some h0
        · skip
          exact Kf.some h0
      · skip
        refine Kf.ite ?_ ?_
        · skip
          refine Kf.ite ?_ ?_
          · skip
            exact Kf.some h0
          · skip
            exact Kf.some h0
        · skip
          refine Kf.ite ?_ ?_
          · skip
            exact Kf.some h0
          · skip
            refine Kf.ite ?_ ?_
            · skip
              exact Kf.some h0
            · skip
              exact Kf.some h0
def zr_J_pop (g : Nat) (r k i : Int) : Prop := (g = 3 ∧ r = 0 ∧ k = 7 ∧ i = 2)
theorem zk_J_pop {W : Nat → Int → Int → Int → Prop} {S0 : Sg} (hW : ∀ g r k i, zr_J_pop g r k i → W g r k i) : ∀ (S : Sg), Fm W S0 S → Kf W S0 (zf_J_pop S) := by
  intro S h0
  unfold zf_J_pop
  refine Kf.ite ?_ ?_
  · skip
    refine Kf.put h0 (hW _ _ _ _ ⟨rfl, rfl, rfl, rfl⟩) (fun S2 h1 => ?_)
    refine Kf.ck ?_
    exact Kf.some h1
  · skip
    exact Kf.some h0
def zr_J_push (g : Nat) (r k i : Int) : Prop := (g = 3 ∧ r = 0 ∧ k = 7 ∧ i = 2) ∨ (g = 3 ∧ r = 0 ∧ k = 9)
theorem zk_J_push {W : Nat → Int → Int → Int → Prop} {S0 : Sg} (hW : ∀ g r k i, zr_J_push g r k i → W g r k i) : ∀ (x1 : Int) (S : Sg), Fm W S0 S → Kf W S0 (zf_J_push x1 S) := by
  intro x1 S h0
  unfold zf_J_push
  refine Kf.ite ?_ ?_
  · skip
    exact Kf.some h0
  · skip
    refine Kf.ck ?_
    refine Kf.put h0 (hW _ _ _ _ (Or.inr ⟨rfl, rfl, rfl⟩)) (fun S3 h1 => ?_)
    refine Kf.put h1 (hW _ _ _ _ (Or.inl ⟨rfl, rfl, rfl, rfl⟩)) (fun S4 h2 => ?_)
    exact Kf.some h2
def zr_J_runs (g1 : Nat) (k1 : Int) (r1 : Int) (n1 : Nat) (g : Nat) (r k i : Int) : Prop := (g = 3 ∧ r = 0 ∧ k = 7 ∧ i = 2) ∨ (g = 3 ∧ r = 0 ∧ k = 9)
theorem zk_J_runs_107 {W : Nat → Int → Int → Int → Prop} {S0 : Sg} {g1 : Nat} {k1 : Int} {r1 : Int} {n1 : Nat} (hW : ∀ g r k i, zr_J_runs g1 k1 r1 n1 g r k i → W g r k i) : ∀ (S : Sg), Fm W S0 S → Kf W S0 (zf_J_runs_107 g1 r1 k1 n1 S) := by
  intro S h0
  unfold zf_J_runs_107
  refine Kf.bd ((zk_J_pop (fun g r k i h => hW g r k i (Or.inl ⟨h.1, h.2.1, h.2.2.1, h.2.2.2⟩))) _ h0) (fun a1 S2 h1 => ?_)
  refine Kf.ite ?_ ?_
  · skip
    exact Kf.some h1
  · skip
    exact Kf.some h1
theorem zk_J_runs_101 {W : Nat → Int → Int → Int → Prop} {S0 : Sg} {g1 : Nat} {k1 : Int} {r1 : Int} {n1 : Nat} (hW : ∀ g r k i, zr_J_runs g1 k1 r1 n1 g r k i → W g r k i) {q7 : Int → Int → Sg → Option (Int × Sg)} (hq7 : ∀ (x0 x1 : Int) (S : Sg), Fm W S0 S → Kf W S0 (q7 x0 x1 S)) : ∀ (x2 : Int) (x3 : Int) (S : Sg), Fm W S0 S → Kf W S0 (zf_J_runs_101 g1 r1 k1 n1 q7 x2 x3 S) := by
  intro x2 x3 S h0
  unfold zf_J_runs_101
  refine Kf.lt (fun v1 => ?_)
  exact hq7 _ _ _ h0
theorem zk_J_runs_7 {W : Nat → Int → Int → Int → Prop} {S0 : Sg} {g1 : Nat} {k1 : Int} {r1 : Int} {n1 : Nat} (hW : ∀ g r k i, zr_J_runs g1 k1 r1 n1 g r k i → W g r k i) : ∀ (n : Nat) (x2 x3 : Int) (S : Sg), Fm W S0 S → Kf W S0 (zf_J_runs_7 g1 r1 k1 n1 n x2 x3 S) := by
  intro n
  induction n with
  | zero => intro x2 x3 S h0; exact Kf.none
  | succ n ih =>
    intro x2 x3 S h0
    rw [zf_J_runs_7]
    refine Kf.ite ?_ ?_
    · skip
      exact (zk_J_runs_107 (g1 := g1) (r1 := r1) (k1 := k1) (n1 := n1) hW) _ h0
    · skip
      refine Kf.ite ?_ ?_
      · skip
        exact (zk_J_runs_107 (g1 := g1) (r1 := r1) (k1 := k1) (n1 := n1) hW) _ h0
      · skip
        refine Kf.ck ?_
        refine Kf.lt (fun v4 => ?_)
        refine Kf.ite ?_ ?_
        · skip
          refine Kf.ite ?_ ?_
          · skip
            refine Kf.ite ?_ ?_
            · skip
              refine Kf.bd ((zk_J_pop (fun g r k i h => hW g r k i (Or.inl ⟨h.1, h.2.1, h.2.2.1, h.2.2.2⟩))) _ h0) (fun a16 S17 h2 => ?_)
              refine Kf.bd ((zk_J_push (fun g r k i h => hW g r k i (Or.elim h (fun h => (Or.inl ⟨h.1, h.2.1, h.2.2.1, h.2.2.2⟩)) (fun h => (Or.inr ⟨h.1, h.2.1, h.2.2⟩))))) _ _ h2) (fun a18 S19 h3 => ?_)
              exact (zk_J_runs_101 (g1 := g1) (r1 := r1) (k1 := k1) (n1 := n1) hW ih) _ _ _ h3
            · skip
              refine Kf.bd ((zk_J_pop (fun g r k i h => hW g r k i (Or.inl ⟨h.1, h.2.1, h.2.2.1, h.2.2.2⟩))) _ h0) (fun a8 S9 h4 => ?_)
              refine Kf.bd ((zk_J_pop (fun g r k i h => hW g r k i (Or.inl ⟨h.1, h.2.1, h.2.2.1, h.2.2.2⟩))) _ h4) (fun a10 S11 h5 => ?_)
              refine Kf.bd ((zk_J_joined (fun _ _ _ _ h => h.elim)) _ _ _ _ h5) (fun a12 S13 h6 => ?_)
              refine Kf.bd ((zk_J_push (fun g r k i h => hW g r k i (Or.elim h (fun h => (Or.inl ⟨h.1, h.2.1, h.2.2.1, h.2.2.2⟩)) (fun h => (Or.inr ⟨h.1, h.2.1, h.2.2⟩))))) _ _ h6) (fun a14 S15 h7 => ?_)
              exact (zk_J_runs_101 (g1 := g1) (r1 := r1) (k1 := k1) (n1 := n1) hW ih) _ _ _ h7
          · skip
            refine Kf.ck ?_
            refine Kf.bd ((zk_J_push (fun g r k i h => hW g r k i (Or.elim h (fun h => (Or.inl ⟨h.1, h.2.1, h.2.2.1, h.2.2.2⟩)) (fun h => (Or.inr ⟨h.1, h.2.1, h.2.2⟩))))) _ _ h0) (fun a21 S22 h8 => ?_)
            exact (zk_J_runs_101 (g1 := g1) (r1 := r1) (k1 := k1) (n1 := n1) hW ih) _ _ _ h8
        · skip
          refine Kf.bd ((zk_J_push (fun g r k i h => hW g r k i (Or.elim h (fun h => (Or.inl ⟨h.1, h.2.1, h.2.2.1, h.2.2.2⟩)) (fun h => (Or.inr ⟨h.1, h.2.1, h.2.2⟩))))) _ _ h0) (fun a23 S24 h9 => ?_)
          exact (zk_J_runs_101 (g1 := g1) (r1 := r1) (k1 := k1) (n1 := n1) hW ih) _ _ _ h9
theorem zk_J_runs {W : Nat → Int → Int → Int → Prop} {S0 : Sg} {g1 : Nat} {k1 : Int} {r1 : Int} {n1 : Nat} (hW : ∀ g r k i, zr_J_runs g1 k1 r1 n1 g r k i → W g r k i) : ∀ (x2 : Int) (S : Sg), Fm W S0 S → Kf W S0 (zf_J_runs g1 r1 k1 n1 x2 S) := by
  intro x2 S h0
  unfold zf_J_runs
  refine Kf.put h0 (hW _ _ _ _ (Or.inl ⟨rfl, rfl, rfl, rfl⟩)) (fun S1 h1 => ?_)
  exact (zk_J_runs_7 (g1 := g1) (r1 := r1) (k1 := k1) (n1 := n1) hW) 4096 _ _ _ h1
def zr_L_inForce (r0 : Int) (g : Nat) (r k i : Int) : Prop := False
theorem zk_L_inForce_102 {W : Nat → Int → Int → Int → Prop} {S0 : Sg} {r0 : Int} (hW : ∀ g r k i, zr_L_inForce r0 g r k i → W g r k i) {q5 : Int → Int → Int → Int → Sg → Option (Int × Sg)} (hq5 : ∀ (x0 x1 x2 x3 : Int) (S : Sg), Fm W S0 S → Kf W S0 (q5 x0 x1 x2 x3 S)) : ∀ (x1 : Int) (x2 : Int) (x3 : Int) (x4 : Int) (S : Sg), Fm W S0 S → Kf W S0 (zf_L_inForce_102 r0 q5 x1 x2 x3 x4 S) := by
  intro x1 x2 x3 x4 S h0
  unfold zf_L_inForce_102
  refine Kf.lt (fun v1 => ?_)
  exact hq5 _ _ _ _ _ h0
theorem zk_L_inForce_99 {W : Nat → Int → Int → Int → Prop} {S0 : Sg} {r0 : Int} (hW : ∀ g r k i, zr_L_inForce r0 g r k i → W g r k i) {q5 : Int → Int → Int → Int → Sg → Option (Int × Sg)} (hq5 : ∀ (x0 x1 x2 x3 : Int) (S : Sg), Fm W S0 S → Kf W S0 (q5 x0 x1 x2 x3 S)) : ∀ (x1 : Int) (x2 : Int) (x4 : Int) (S : Sg), Fm W S0 S → Kf W S0 (zf_L_inForce_99 r0 q5 x1 x2 x4 S) := by
  intro x1 x2 x4 S h0
  unfold zf_L_inForce_99
  exact (zk_L_inForce_102 (r0 := r0) hW hq5) _ _ _ _ _ h0
theorem zk_L_inForce_40 {W : Nat → Int → Int → Int → Prop} {S0 : Sg} {r0 : Int} (hW : ∀ g r k i, zr_L_inForce r0 g r k i → W g r k i) {q5 : Int → Int → Int → Int → Sg → Option (Int × Sg)} (hq5 : ∀ (x0 x1 x2 x3 : Int) (S : Sg), Fm W S0 S → Kf W S0 (q5 x0 x1 x2 x3 S)) : ∀ (x1 : Int) (x2 : Int) (x3 : Int) (x4 : Int) (xt0 : Int) (S : Sg), Fm W S0 S → Kf W S0 (zf_L_inForce_40 r0 q5 x1 x2 x3 x4 xt0 S) := by
  intro x1 x2 x3 x4 xt0 S h0
  unfold zf_L_inForce_40
  refine Kf.ck ?_
  refine Kf.ite ?_ ?_
  · skip
    refine Kf.ite ?_ ?_
    · skip
      refine Kf.ite ?_ ?_
      · skip
        exact (zk_L_inForce_102 (r0 := r0) hW hq5) _ _ _ _ _ h0
      · skip
        refine Kf.ite ?_ ?_
        · skip
          refine Kf.ite ?_ ?_
          · skip
            exact (zk_L_inForce_99 (r0 := r0) hW hq5) _ _ _ _ h0
          · skip
            refine Kf.ck ?_
            refine Kf.ite ?_ ?_
            · skip
              exact (zk_L_inForce_102 (r0 := r0) hW hq5) _ _ _ _ _ h0
            · skip
              exact (zk_L_inForce_99 (r0 := r0) hW hq5) _ _ _ _ h0
        · skip
          exact (zk_L_inForce_102 (r0 := r0) hW hq5) _ _ _ _ _ h0
    · skip
      exact (zk_L_inForce_102 (r0 := r0) hW hq5) _ _ _ _ _ h0
  · skip
    exact (zk_L_inForce_102 (r0 := r0) hW hq5) _ _ _ _ _ h0
theorem zk_L_inForce_39 {W : Nat → Int → Int → Int → Prop} {S0 : Sg} {r0 : Int} (hW : ∀ g r k i, zr_L_inForce r0 g r k i → W g r k i) {q5 : Int → Int → Int → Int → Sg → Option (Int × Sg)} (hq5 : ∀ (x0 x1 x2 x3 : Int) (S : Sg), Fm W S0 S → Kf W S0 (q5 x0 x1 x2 x3 S)) : ∀ (x1 : Int) (x2 : Int) (x3 : Int) (x4 : Int) (S : Sg), Fm W S0 S → Kf W S0 (zf_L_inForce_39 r0 q5 x1 x2 x3 x4 S) := by
  intro x1 x2 x3 x4 S h0
  unfold zf_L_inForce_39
  exact (zk_L_inForce_40 (r0 := r0) hW hq5) _ _ _ _ _ _ h0
theorem zk_L_inForce_5 {W : Nat → Int → Int → Int → Prop} {S0 : Sg} {r0 : Int} (hW : ∀ g r k i, zr_L_inForce r0 g r k i → W g r k i) : ∀ (n : Nat) (x1 x2 x3 x4 : Int) (S : Sg), Fm W S0 S → Kf W S0 (zf_L_inForce_5 r0 n x1 x2 x3 x4 S) := by
  intro n
  induction n with
  | zero => intro x1 x2 x3 x4 S h0; exact Kf.none
  | succ n ih =>
    intro x1 x2 x3 x4 S h0
    rw [zf_L_inForce_5]
    refine Kf.ite ?_ ?_
    · skip
      exact Kf.some h0
    · skip
      refine Kf.ck ?_
      refine Kf.ite ?_ ?_
      · skip
        exact (zk_L_inForce_39 (r0 := r0) hW ih) _ _ _ _ _ h0
      · skip
        refine Kf.ite ?_ ?_
        · skip
          exact (zk_L_inForce_39 (r0 := r0) hW ih) _ _ _ _ _ h0
        · skip
          exact (zk_L_inForce_40 (r0 := r0) hW ih) _ _ _ _ _ _ h0
theorem zk_L_inForce {W : Nat → Int → Int → Int → Prop} {S0 : Sg} {r0 : Int} (hW : ∀ g r k i, zr_L_inForce r0 g r k i → W g r k i) : ∀ (x1 : Int) (x2 : Int) (S : Sg), Fm W S0 S → Kf W S0 (zf_L_inForce r0 x1 x2 S) := by
  intro x1 x2 S h0
  unfold zf_L_inForce
  exact (zk_L_inForce_5 (r0 := r0) hW) 4096 _ _ _ _ _ h0
def zr_J_allows (r1 : Int) (g : Nat) (r k i : Int) : Prop := (g = 3 ∧ r = 0 ∧ k = 7 ∧ i = 2) ∨ (g = 3 ∧ r = 0 ∧ k = 8) ∨ (g = 3 ∧ r = 0 ∧ k = 9)
theorem zk_J_allows {W : Nat → Int → Int → Int → Prop} {S0 : Sg} {r1 : Int} (hW : ∀ g r k i, zr_J_allows r1 g r k i → W g r k i) : ∀ (x2 : Int) (x3 : Int) (S : Sg), Fm W S0 S → Kf W S0 (zf_J_allows r1 x2 x3 S) := by
  intro x2 x3 S h0
  unfold zf_J_allows
  refine Kf.bd ((zk_L_inForce (r0 := (r1)) (fun _ _ _ _ h => h.elim)) _ _ _ h0) (fun a1 S2 h1 => ?_)
  refine Kf.ite ?_ ?_
  · skip
    refine Kf.bd ((zk_J_look (r1 := (r1)) (fun g r k i h => hW g r k i (Or.inr (Or.inl ⟨h.1, h.2.1, h.2.2⟩)))) _ _ h1) (fun a4 S5 h2 => ?_)
    refine Kf.ck ?_
    refine Kf.bd ((zk_J_runs (g1 := 1) (r1 := (a1)) (k1 := (0)) (n1 := 120) (fun g r k i h => hW g r k i (Or.elim h (fun h => (Or.inl ⟨h.1, h.2.1, h.2.2.1, h.2.2.2⟩)) (fun h => (Or.inr (Or.inr ⟨h.1, h.2.1, h.2.2⟩)))))) _ _ h2) (fun a7 S8 h3 => ?_)
    refine Kf.ck ?_
    exact Kf.some h3
  · skip
    refine Kf.bd ((zk_J_allowsWithoutLaw (r0 := (r1)) (fun _ _ _ _ h => h.elim)) _ _ _ h1) (fun a10 S11 h4 => ?_)
    refine Kf.ck ?_
    exact Kf.some h4
def zr_J_countVoters (r1 : Int) (g : Nat) (r k i : Int) : Prop := (g = 3 ∧ r = 0 ∧ k = 7 ∧ i = 2) ∨ (g = 3 ∧ r = 0 ∧ k = 8) ∨ (g = 3 ∧ r = 0 ∧ k = 9)
theorem zk_J_countVoters_52 {W : Nat → Int → Int → Int → Prop} {S0 : Sg} {r1 : Int} (hW : ∀ g r k i, zr_J_countVoters r1 g r k i → W g r k i) {q4 : Int → Int → Sg → Option (Int × Sg)} (hq4 : ∀ (x0 x1 : Int) (S : Sg), Fm W S0 S → Kf W S0 (q4 x0 x1 S)) : ∀ (x2 : Int) (x3 : Int) (S : Sg), Fm W S0 S → Kf W S0 (zf_J_countVoters_52 r1 q4 x2 x3 S) := by
  intro x2 x3 S h0
  unfold zf_J_countVoters_52
  refine Kf.lt (fun v1 => ?_)
  exact hq4 _ _ _ h0
theorem zk_J_countVoters_4 {W : Nat → Int → Int → Int → Prop} {S0 : Sg} {r1 : Int} (hW : ∀ g r k i, zr_J_countVoters r1 g r k i → W g r k i) : ∀ (n : Nat) (x2 x3 : Int) (S : Sg), Fm W S0 S → Kf W S0 (zf_J_countVoters_4 r1 n x2 x3 S) := by
  intro n
  induction n with
  | zero => intro x2 x3 S h0; exact Kf.none
  | succ n ih =>
    intro x2 x3 S h0
    rw [zf_J_countVoters_4]
    refine Kf.ite ?_ ?_
    · skip
      exact Kf.some h0
    · skip
      refine Kf.ck ?_
      refine Kf.ite ?_ ?_
      · skip
        refine Kf.ite ?_ ?_
        · skip
          exact (zk_J_countVoters_52 (r1 := r1) hW ih) _ _ _ h0
        · skip
          refine Kf.bd ((zk_J_allows (r1 := (r1)) (fun g r k i h => hW g r k i (Or.elim h (fun h => (Or.inl ⟨h.1, h.2.1, h.2.2.1, h.2.2.2⟩)) (fun h => (Or.elim h (fun h => (Or.inr (Or.inl ⟨h.1, h.2.1, h.2.2⟩))) (fun h => (Or.inr (Or.inr ⟨h.1, h.2.1, h.2.2⟩)))))))) _ _ _ h0) (fun a5 S6 h1 => ?_)
          refine Kf.ite ?_ ?_
          · skip
            exact (zk_J_countVoters_52 (r1 := r1) hW ih) _ _ _ h1
          · skip
            refine Kf.lt (fun v8 => ?_)
            exact (zk_J_countVoters_52 (r1 := r1) hW ih) _ _ _ h1
      · skip
        exact (zk_J_countVoters_52 (r1 := r1) hW ih) _ _ _ h0
theorem zk_J_countVoters {W : Nat → Int → Int → Int → Prop} {S0 : Sg} {r1 : Int} (hW : ∀ g r k i, zr_J_countVoters r1 g r k i → W g r k i) : ∀ (S : Sg), Fm W S0 S → Kf W S0 (zf_J_countVoters r1 S) := by
  intro S h0
  unfold zf_J_countVoters
  exact (zk_J_countVoters_4 (r1 := r1) hW) 4096 _ _ _ h0
def zr_L_add (r0 : Int) (g : Nat) (r k i : Int) : Prop := (g = 0 ∧ r = r0 ∧ k = 16 ∧ i = 0) ∨ (g = 0 ∧ r = r0 ∧ k = 17) ∨ (g = 0 ∧ r = r0 ∧ k = 18) ∨ (g = 0 ∧ r = r0 ∧ k = 19) ∨ (g = 0 ∧ r = r0 ∧ k = 20) ∨ (g = 0 ∧ r = r0 ∧ k = 21) ∨ (g = 0 ∧ r = r0 ∧ k = 22) ∨ (g = 0 ∧ r = r0 ∧ k = 23) ∨ (g = 0 ∧ r = r0 ∧ k = 24) ∨ (g = 0 ∧ r = r0 ∧ k = 25) ∨ (g = 1 ∧ k = 0)
theorem zk_L_add {W : Nat → Int → Int → Int → Prop} {S0 : Sg} {r0 : Int} (hW : ∀ g r k i, zr_L_add r0 g r k i → W g r k i) : ∀ (x2 : Int) (x3 : Int) (x4 : Int) (x5 : Int) (S : Sg), Fm W S0 S → Kf W S0 (zf_L_add r0 x2 x3 x4 x5 S) := by
  intro x2 x3 x4 x5 S h0
  unfold zf_L_add
  refine Kf.ite ?_ ?_
  · skip
    refine Kf.lt (fun v2 => ?_)
    refine Kf.ck ?_
    refine Kf.put h0 (hW _ _ _ _ (Or.inr (Or.inl ⟨rfl, rfl, rfl⟩))) (fun S4 h2 => ?_)
    refine Kf.put h2 (hW _ _ _ _ (Or.inr (Or.inr (Or.inl ⟨rfl, rfl, rfl⟩)))) (fun S5 h3 => ?_)
    refine Kf.put h3 (hW _ _ _ _ (Or.inr (Or.inr (Or.inr (Or.inl ⟨rfl, rfl, rfl⟩))))) (fun S6 h4 => ?_)
    refine Kf.put h4 (hW _ _ _ _ (Or.inr (Or.inr (Or.inr (Or.inr (Or.inl ⟨rfl, rfl, rfl⟩)))))) (fun S7 h5 => ?_)
    refine Kf.put h5 (hW _ _ _ _ (Or.inr (Or.inr (Or.inr (Or.inr (Or.inr (Or.inl ⟨rfl, rfl, rfl⟩))))))) (fun S8 h6 => ?_)
    refine Kf.put h6 (hW _ _ _ _ (Or.inr (Or.inr (Or.inr (Or.inr (Or.inr (Or.inr (Or.inl ⟨rfl, rfl, rfl⟩)))))))) (fun S9 h7 => ?_)
    refine Kf.bd ((zk_L_inForce (r0 := (r0)) (fun _ _ _ _ h => h.elim)) _ _ _ h7) (fun a10 S11 h8 => ?_)
    refine Kf.put h8 (hW _ _ _ _ (Or.inr (Or.inr (Or.inr (Or.inr (Or.inr (Or.inr (Or.inr (Or.inl ⟨rfl, rfl, rfl⟩))))))))) (fun S12 h9 => ?_)
    refine Kf.put h9 (hW _ _ _ _ (Or.inr (Or.inr (Or.inr (Or.inr (Or.inr (Or.inr (Or.inr (Or.inr (Or.inl ⟨rfl, rfl, rfl⟩)))))))))) (fun S13 h10 => ?_)
    refine Kf.put h10 (hW _ _ _ _ (Or.inr (Or.inr (Or.inr (Or.inr (Or.inr (Or.inr (Or.inr (Or.inr (Or.inr (Or.inl ⟨rfl, rfl, rfl⟩))))))))))) (fun S14 h11 => ?_)
    refine Kf.cp h11 (fun j => hW _ _ _ j (Or.inr (Or.inr (Or.inr (Or.inr (Or.inr (Or.inr (Or.inr (Or.inr (Or.inr (Or.inr ⟨rfl, rfl⟩))))))))))) (fun S15 h12 => ?_)
    refine Kf.put h12 (hW _ _ _ _ (Or.inl ⟨rfl, rfl, rfl, rfl⟩)) (fun S16 h13 => ?_)
    exact Kf.some h13
  · skip
    exact Kf.some h0
def zr_O_vote (g : Nat) (r k i : Int) : Prop := (g = 0 ∧ r = 0 ∧ k = 16 ∧ i = 0) ∨ (g = 0 ∧ r = 0 ∧ k = 17) ∨ (g = 0 ∧ r = 0 ∧ k = 18) ∨ (g = 0 ∧ r = 0 ∧ k = 19) ∨ (g = 0 ∧ r = 0 ∧ k = 20) ∨ (g = 0 ∧ r = 0 ∧ k = 21) ∨ (g = 0 ∧ r = 0 ∧ k = 22) ∨ (g = 0 ∧ r = 0 ∧ k = 23) ∨ (g = 0 ∧ r = 0 ∧ k = 24) ∨ (g = 0 ∧ r = 0 ∧ k = 25) ∨ (g = 1 ∧ k = 0) ∨ (g = 3 ∧ r = 0 ∧ k = 4 ∧ i = 0) ∨ (g = 3 ∧ r = 0 ∧ k = 4 ∧ i = 2) ∨ (g = 3 ∧ r = 0 ∧ k = 4 ∧ i = 4) ∨ (g = 3 ∧ r = 0 ∧ k = 4 ∧ i = 5) ∨ (g = 3 ∧ r = 0 ∧ k = 4 ∧ i = 6) ∨ (g = 3 ∧ r = 0 ∧ k = 4 ∧ i = 7) ∨ (g = 3 ∧ r = 0 ∧ k = 5) ∨ (g = 3 ∧ r = 0 ∧ k = 6) ∨ (g = 3 ∧ r = 0 ∧ k = 7 ∧ i = 2) ∨ (g = 3 ∧ r = 0 ∧ k = 8) ∨ (g = 3 ∧ r = 0 ∧ k = 9)
theorem zk_O_vote {W : Nat → Int → Int → Int → Prop} {S0 : Sg} (hW : ∀ g r k i, zr_O_vote g r k i → W g r k i) : ∀ (x1 : Int) (x2 : Int) (S : Sg), Fm W S0 S → Kf W S0 (zf_O_vote x1 x2 S) := by
  intro x1 x2 S h0
  unfold zf_O_vote
  refine Kf.bd ((zk_J_countVoters (r1 := (0)) (fun g r k i h => hW g r k i (Or.elim h (fun h => (Or.inr (Or.inr (Or.inr (Or.inr (Or.inr (Or.inr (Or.inr (Or.inr (Or.inr (Or.inr (Or.inr (Or.inr (Or.inr (Or.inr (Or.inr (Or.inr (Or.inr (Or.inr (Or.inr (Or.inl ⟨h.1, h.2.1, h.2.2.1, h.2.2.2⟩))))))))))))))))))))) (fun h => (Or.elim h (fun h => (Or.inr (Or.inr (Or.inr (Or.inr (Or.inr (Or.inr (Or.inr (Or.inr (Or.inr (Or.inr (Or.inr (Or.inr (Or.inr (Or.inr (Or.inr (Or.inr (Or.inr (Or.inr (Or.inr (Or.inr (Or.inl ⟨h.1, h.2.1, h.2.2⟩)))))))))))))))))))))) (fun h => (Or.inr (Or.inr (Or.inr (Or.inr (Or.inr (Or.inr (Or.inr (Or.inr (Or.inr (Or.inr (Or.inr (Or.inr (Or.inr (Or.inr (Or.inr (Or.inr (Or.inr (Or.inr (Or.inr (Or.inr (Or.inr ⟨h.1, h.2.1, h.2.2⟩))))))))))))))))))))))))))) _ h0) (fun a1 S2 h1 => ?_)
  refine Kf.bd ((zk_O_isShelf (fun _ _ _ _ h => h.elim)) _ _ h1) (fun a3 S4 h2 => ?_)
  refine Kf.ite ?_ ?_
  · skip
    exact Kf.some h2
  · skip
    refine Kf.ite ?_ ?_
    · skip
      exact Kf.some h2
    · skip
      refine Kf.ite ?_ ?_
      · skip
        refine Kf.bd ((zk_O_fault (fun g r k i h => hW g r k i (Or.elim h (fun h => (Or.inr (Or.inr (Or.inr (Or.inr (Or.inr (Or.inr (Or.inr (Or.inr (Or.inr (Or.inr (Or.inr (Or.inl ⟨h.1, h.2.1, h.2.2.1, h.2.2.2⟩))))))))))))) (fun h => (Or.elim h (fun h => (Or.inr (Or.inr (Or.inr (Or.inr (Or.inr (Or.inr (Or.inr (Or.inr (Or.inr (Or.inr (Or.inr (Or.inr (Or.inl ⟨h.1, h.2.1, h.2.2.1, h.2.2.2⟩)))))))))))))) (fun h => (Or.elim h (fun h => (Or.inr (Or.inr (Or.inr (Or.inr (Or.inr (Or.inr (Or.inr (Or.inr (Or.inr (Or.inr (Or.inr (Or.inr (Or.inr (Or.inl ⟨h.1, h.2.1, h.2.2.1, h.2.2.2⟩))))))))))))))) (fun h => (Or.elim h (fun h => (Or.inr (Or.inr (Or.inr (Or.inr (Or.inr (Or.inr (Or.inr (Or.inr (Or.inr (Or.inr (Or.inr (Or.inr (Or.inr (Or.inr (Or.inl ⟨h.1, h.2.1, h.2.2.1, h.2.2.2⟩)))))))))))))))) (fun h => (Or.elim h (fun h => (Or.inr (Or.inr (Or.inr (Or.inr (Or.inr (Or.inr (Or.inr (Or.inr (Or.inr (Or.inr (Or.inr (Or.inr (Or.inr (Or.inr (Or.inr (Or.inl ⟨h.1, h.2.1, h.2.2.1, h.2.2.2⟩))))))))))))))))) (fun h => (Or.elim h (fun h => (Or.inr (Or.inr (Or.inr (Or.inr (Or.inr (Or.inr (Or.inr (Or.inr (Or.inr (Or.inr (Or.inr (Or.inr (Or.inr (Or.inr (Or.inr (Or.inr (Or.inl ⟨h.1, h.2.1, h.2.2.1, h.2.2.2⟩)))))))))))))))))) (fun h => (Or.elim h (fun h => (Or.inr (Or.inr (Or.inr (Or.inr (Or.inr (Or.inr (Or.inr (Or.inr (Or.inr (Or.inr (Or.inr (Or.inr (Or.inr (Or.inr (Or.inr (Or.inr (Or.inr (Or.inl ⟨h.1, h.2.1, h.2.2⟩))))))))))))))))))) (fun h => (Or.inr (Or.inr (Or.inr (Or.inr (Or.inr (Or.inr (Or.inr (Or.inr (Or.inr (Or.inr (Or.inr (Or.inr (Or.inr (Or.inr (Or.inr (Or.inr (Or.inr (Or.inr (Or.inl ⟨h.1, h.2.1, h.2.2⟩))))))))))))))))))))))))))))))))))) _ _ h2) (fun a8 S9 h3 => ?_)
        refine Kf.ite ?_ ?_
        · skip
          exact Kf.some h3
        · skip
          refine Kf.ite ?_ ?_
          · skip
            exact Kf.some h3
          · skip
            refine Kf.ite ?_ ?_
            · skip
              refine Kf.ite ?_ ?_
              · skip
                refine Kf.ite ?_ ?_
                · skip
                  refine Kf.ck ?_
                  refine Kf.bd ((zk_L_add (r0 := (0)) (fun g r k i h => hW g r k i (Or.elim h (fun h => (Or.inl ⟨h.1, h.2.1, h.2.2.1, h.2.2.2⟩)) (fun h => (Or.elim h (fun h => (Or.inr (Or.inl ⟨h.1, h.2.1, h.2.2⟩))) (fun h => (Or.elim h (fun h => (Or.inr (Or.inr (Or.inl ⟨h.1, h.2.1, h.2.2⟩)))) (fun h => (Or.elim h (fun h => (Or.inr (Or.inr (Or.inr (Or.inl ⟨h.1, h.2.1, h.2.2⟩))))) (fun h => (Or.elim h (fun h => (Or.inr (Or.inr (Or.inr (Or.inr (Or.inl ⟨h.1, h.2.1, h.2.2⟩)))))) (fun h => (Or.elim h (fun h => (Or.inr (Or.inr (Or.inr (Or.inr (Or.inr (Or.inl ⟨h.1, h.2.1, h.2.2⟩))))))) (fun h => (Or.elim h (fun h => (Or.inr (Or.inr (Or.inr (Or.inr (Or.inr (Or.inr (Or.inl ⟨h.1, h.2.1, h.2.2⟩)))))))) (fun h => (Or.elim h (fun h => (Or.inr (Or.inr (Or.inr (Or.inr (Or.inr (Or.inr (Or.inr (Or.inl ⟨h.1, h.2.1, h.2.2⟩))))))))) (fun h => (Or.elim h (fun h => (Or.inr (Or.inr (Or.inr (Or.inr (Or.inr (Or.inr (Or.inr (Or.inr (Or.inl ⟨h.1, h.2.1, h.2.2⟩)))))))))) (fun h => (Or.elim h (fun h => (Or.inr (Or.inr (Or.inr (Or.inr (Or.inr (Or.inr (Or.inr (Or.inr (Or.inr (Or.inl ⟨h.1, h.2.1, h.2.2⟩))))))))))) (fun h => (Or.inr (Or.inr (Or.inr (Or.inr (Or.inr (Or.inr (Or.inr (Or.inr (Or.inr (Or.inr (Or.inl ⟨h.1, h.2⟩))))))))))))))))))))))))))))))))) _ _ _ _ _ h3) (fun a16 S17 h4 => ?_)
                  exact Kf.some h4
                · skip
                  exact Kf.some h3
              · skip
                exact Kf.some h3
            · skip
              exact Kf.some h3
      · skip
        exact Kf.some h2
def zr_L_has (r0 : Int) (g : Nat) (r k i : Int) : Prop := False
theorem zk_L_has {W : Nat → Int → Int → Int → Prop} {S0 : Sg} {r0 : Int} (hW : ∀ g r k i, zr_L_has r0 g r k i → W g r k i) : ∀ (x1 : Int) (S : Sg), Fm W S0 S → Kf W S0 (zf_L_has r0 x1 S) := by
  intro x1 S h0
  unfold zf_L_has
  refine Kf.ite ?_ ?_
  · skip
    exact Kf.some h0
  · skip
    refine Kf.ite ?_ ?_
    · skip
      exact Kf.some h0
    · skip
      exact Kf.some h0
def zr_O_repeal (g : Nat) (r k i : Int) : Prop := (g = 0 ∧ r = 0 ∧ k = 22)
theorem zk_O_repeal {W : Nat → Int → Int → Int → Prop} {S0 : Sg} (hW : ∀ g r k i, zr_O_repeal g r k i → W g r k i) : ∀ (x1 : Int) (S : Sg), Fm W S0 S → Kf W S0 (zf_O_repeal x1 S) := by
  intro x1 S h0
  unfold zf_O_repeal
  refine Kf.bd ((zk_L_has (r0 := (0)) (fun _ _ _ _ h => h.elim)) _ _ h0) (fun a1 S2 h1 => ?_)
  refine Kf.ite ?_ ?_
  · skip
    exact Kf.some h1
  · skip
    refine Kf.ck ?_
    refine Kf.ite ?_ ?_
    · skip
      exact Kf.some h1
    · skip
      refine Kf.ite ?_ ?_
      · skip
        refine Kf.put h1 (hW _ _ _ _ ⟨rfl, rfl, rfl⟩) (fun S7 h2 => ?_)
        exact Kf.some h2
      · skip
        exact Kf.some h1
def zr_L_takeBack (r0 : Int) (g : Nat) (r k i : Int) : Prop := (g = 0 ∧ r = r0 ∧ k = 21)
theorem zk_L_takeBack_73 {W : Nat → Int → Int → Int → Prop} {S0 : Sg} {r0 : Int} (hW : ∀ g r k i, zr_L_takeBack r0 g r k i → W g r k i) {q13 : Int → Int → Sg → Option (Int × Sg)} (hq13 : ∀ (x0 x1 : Int) (S : Sg), Fm W S0 S → Kf W S0 (q13 x0 x1 S)) : ∀ (x2 : Int) (x3 : Int) (S : Sg), Fm W S0 S → Kf W S0 (zf_L_takeBack_73 r0 q13 x2 x3 S) := by
  intro x2 x3 S h0
  unfold zf_L_takeBack_73
  refine Kf.lt (fun v1 => ?_)
  exact hq13 _ _ _ h0
theorem zk_L_takeBack_13 {W : Nat → Int → Int → Int → Prop} {S0 : Sg} {r0 : Int} (hW : ∀ g r k i, zr_L_takeBack r0 g r k i → W g r k i) : ∀ (n : Nat) (x2 x3 : Int) (S : Sg), Fm W S0 S → Kf W S0 (zf_L_takeBack_13 r0 n x2 x3 S) := by
  intro n
  induction n with
  | zero => intro x2 x3 S h0; exact Kf.none
  | succ n ih =>
    intro x2 x3 S h0
    rw [zf_L_takeBack_13]
    refine Kf.ite ?_ ?_
    · skip
      exact Kf.some h0
    · skip
      refine Kf.ck ?_
      refine Kf.lt (fun v3 => ?_)
      refine Kf.ite ?_ ?_
      · skip
        refine Kf.ite ?_ ?_
        · skip
          exact (zk_L_takeBack_73 (r0 := r0) hW ih) _ _ _ h0
        · skip
          refine Kf.ite ?_ ?_
          · skip
            exact (zk_L_takeBack_73 (r0 := r0) hW ih) _ _ _ h0
          · skip
            refine Kf.ck ?_
            refine Kf.ite ?_ ?_
            · skip
              refine Kf.put h0 (hW _ _ _ _ ⟨rfl, rfl, rfl⟩) (fun S9 h2 => ?_)
              refine Kf.lt (fun v10 => ?_)
              exact (zk_L_takeBack_73 (r0 := r0) hW ih) _ _ _ h2
            · skip
              exact (zk_L_takeBack_73 (r0 := r0) hW ih) _ _ _ h0
      · skip
        exact (zk_L_takeBack_73 (r0 := r0) hW ih) _ _ _ h0
theorem zk_L_takeBack {W : Nat → Int → Int → Int → Prop} {S0 : Sg} {r0 : Int} (hW : ∀ g r k i, zr_L_takeBack r0 g r k i → W g r k i) : ∀ (x1 : Int) (S : Sg), Fm W S0 S → Kf W S0 (zf_L_takeBack r0 x1 S) := by
  intro x1 S h0
  unfold zf_L_takeBack
  refine Kf.ck ?_
  refine Kf.put h0 (hW _ _ _ _ ⟨rfl, rfl, rfl⟩) (fun S2 h1 => ?_)
  refine Kf.lt (fun v3 => ?_)
  exact (zk_L_takeBack_13 (r0 := r0) hW) 4096 _ _ _ h1
def zr_O_found (g : Nat) (r k i : Int) : Prop := (g = 0 ∧ r = 0 ∧ k = 19) ∨ (g = 0 ∧ r = 0 ∧ k = 21)
theorem zk_O_found {W : Nat → Int → Int → Int → Prop} {S0 : Sg} (hW : ∀ g r k i, zr_O_found g r k i → W g r k i) : ∀ (x1 : Int) (x2 : Int) (S : Sg), Fm W S0 S → Kf W S0 (zf_O_found x1 x2 S) := by
  intro x1 x2 S h0
  unfold zf_O_found
  refine Kf.bd ((zk_L_has (r0 := (0)) (fun _ _ _ _ h => h.elim)) _ _ h0) (fun a1 S2 h1 => ?_)
  refine Kf.ite ?_ ?_
  · skip
    exact Kf.some h1
  · skip
    refine Kf.ite ?_ ?_
    · skip
      exact Kf.some h1
    · skip
      refine Kf.ck ?_
      refine Kf.ite ?_ ?_
      · skip
        refine Kf.ite ?_ ?_
        · skip
          exact Kf.some h1
        · skip
          refine Kf.put h1 (hW _ _ _ _ (Or.inl ⟨rfl, rfl, rfl⟩)) (fun S8 h2 => ?_)
          refine Kf.ite ?_ ?_
          · skip
            refine Kf.bd ((zk_L_takeBack (r0 := (0)) (fun g r k i h => hW g r k i (Or.inr ⟨h.1, h.2.1, h.2.2⟩))) _ _ h2) (fun a10 S11 h3 => ?_)
            exact Kf.some h3
          · skip
            exact Kf.some h2
      · skip
        exact Kf.some h1
def zr_O_isSubject (g : Nat) (r k i : Int) : Prop := False
theorem zk_O_isSubject {W : Nat → Int → Int → Int → Prop} {S0 : Sg} (hW : ∀ g r k i, zr_O_isSubject g r k i → W g r k i) : ∀ (x0 : Int) (S : Sg), Fm W S0 S → Kf W S0 (zf_O_isSubject x0 S) := by
  intro x0 S h0
  unfold zf_O_isSubject
  refine Kf.ite ?_ ?_
  · skip
    exact Kf.some h0
  · skip
    refine Kf.ite ?_ ?_
    · skip
      exact Kf.some h0
    · skip
      exact Kf.some h0
def zr_O_isWeek (g : Nat) (r k i : Int) : Prop := False
theorem zk_O_isWeek {W : Nat → Int → Int → Int → Prop} {S0 : Sg} (hW : ∀ g r k i, zr_O_isWeek g r k i → W g r k i) : ∀ (x0 : Int) (S : Sg), Fm W S0 S → Kf W S0 (zf_O_isWeek x0 S) := by
  intro x0 S h0
  unfold zf_O_isWeek
  refine Kf.ite ?_ ?_
  · skip
    exact Kf.some h0
  · skip
    refine Kf.ite ?_ ?_
    · skip
      exact Kf.some h0
    · skip
      exact Kf.some h0
def zr_O_force (g : Nat) (r k i : Int) : Prop := False
theorem zk_O_force {W : Nat → Int → Int → Int → Prop} {S0 : Sg} (hW : ∀ g r k i, zr_O_force g r k i → W g r k i) : ∀ (x1 : Int) (x2 : Int) (S : Sg), Fm W S0 S → Kf W S0 (zf_O_force x1 x2 S) := by
  intro x1 x2 S h0
  unfold zf_O_force
  refine Kf.bd ((zk_O_isSubject (fun _ _ _ _ h => h.elim)) _ _ h0) (fun a1 S2 h1 => ?_)
  refine Kf.ite ?_ ?_
  · skip
    exact Kf.some h1
  · skip
    refine Kf.bd ((zk_O_isWeek (fun _ _ _ _ h => h.elim)) _ _ h1) (fun a4 S5 h2 => ?_)
    refine Kf.ite ?_ ?_
    · skip
      exact Kf.some h2
    · skip
      refine Kf.bd ((zk_L_inForce (r0 := (0)) (fun _ _ _ _ h => h.elim)) _ _ _ h2) (fun a7 S8 h3 => ?_)
      refine Kf.ite ?_ ?_
      · skip
        exact Kf.some h3
      · skip
        exact Kf.some h3
def zr_O_may (g : Nat) (r k i : Int) : Prop := (g = 3 ∧ r = 0 ∧ k = 7 ∧ i = 2) ∨ (g = 3 ∧ r = 0 ∧ k = 8) ∨ (g = 3 ∧ r = 0 ∧ k = 9)
theorem zk_O_may {W : Nat → Int → Int → Int → Prop} {S0 : Sg} (hW : ∀ g r k i, zr_O_may g r k i → W g r k i) : ∀ (x1 : Int) (x2 : Int) (S : Sg), Fm W S0 S → Kf W S0 (zf_O_may x1 x2 S) := by
  intro x1 x2 S h0
  unfold zf_O_may
  refine Kf.bd ((zk_P_has (r0 := (0)) (fun _ _ _ _ h => h.elim)) _ _ h0) (fun a1 S2 h1 => ?_)
  refine Kf.ite ?_ ?_
  · skip
    exact Kf.some h1
  · skip
    refine Kf.bd ((zk_O_isSubject (fun _ _ _ _ h => h.elim)) _ _ h1) (fun a4 S5 h2 => ?_)
    refine Kf.ite ?_ ?_
    · skip
      exact Kf.some h2
    · skip
      refine Kf.ck ?_
      refine Kf.ite ?_ ?_
      · skip
        refine Kf.bd ((zk_J_allows (r1 := (0)) (fun g r k i h => hW g r k i (Or.elim h (fun h => (Or.inl ⟨h.1, h.2.1, h.2.2.1, h.2.2.2⟩)) (fun h => (Or.elim h (fun h => (Or.inr (Or.inl ⟨h.1, h.2.1, h.2.2⟩))) (fun h => (Or.inr (Or.inr ⟨h.1, h.2.1, h.2.2⟩)))))))) _ _ _ h2) (fun a9 S10 h3 => ?_)
        refine Kf.ite ?_ ?_
        · skip
          exact Kf.some h3
        · skip
          exact Kf.some h3
      · skip
        exact Kf.some h2
def zr_O_law (g : Nat) (r k i : Int) : Prop := False
theorem zk_O_law {W : Nat → Int → Int → Int → Prop} {S0 : Sg} (hW : ∀ g r k i, zr_O_law g r k i → W g r k i) : ∀ (x1 : Int) (x2 : Int) (S : Sg), Fm W S0 S → Kf W S0 (zf_O_law x1 x2 S) := by
  intro x1 x2 S h0
  unfold zf_O_law
  refine Kf.bd ((zk_L_has (r0 := (0)) (fun _ _ _ _ h => h.elim)) _ _ h0) (fun a1 S2 h1 => ?_)
  refine Kf.ite ?_ ?_
  · skip
    exact Kf.some h1
  · skip
    refine Kf.ite ?_ ?_
    · skip
      refine Kf.ck ?_
      exact Kf.some h1
    · skip
      refine Kf.ite ?_ ?_
      · skip
        refine Kf.ck ?_
        exact Kf.some h1
      · skip
        refine Kf.ite ?_ ?_
        · skip
          refine Kf.ck ?_
          exact Kf.some h1
        · skip
          refine Kf.ite ?_ ?_
          · skip
            refine Kf.ck ?_
            exact Kf.some h1
          · skip
            refine Kf.ite ?_ ?_
            · skip
              refine Kf.ck ?_
              exact Kf.some h1
            · skip
              refine Kf.ite ?_ ?_
              · skip
                refine Kf.ck ?_
                refine Kf.ite ?_ ?_
                · skip
                  exact Kf.some h1
                · skip
                  exact Kf.some h1
              · skip
                exact Kf.some h1
def zr_Q_add (r0 : Int) (g : Nat) (r k i : Int) : Prop := (g = 0 ∧ r = r0 ∧ k = 26 ∧ i = 0) ∨ (g = 0 ∧ r = r0 ∧ k = 27) ∨ (g = 0 ∧ r = r0 ∧ k = 28) ∨ (g = 0 ∧ r = r0 ∧ k = 29) ∨ (g = 0 ∧ r = r0 ∧ k = 30)
theorem zk_Q_add {W : Nat → Int → Int → Int → Prop} {S0 : Sg} {r0 : Int} (hW : ∀ g r k i, zr_Q_add r0 g r k i → W g r k i) : ∀ (x1 : Int) (x2 : Int) (x3 : Int) (S : Sg), Fm W S0 S → Kf W S0 (zf_Q_add r0 x1 x2 x3 S) := by
  intro x1 x2 x3 S h0
  unfold zf_Q_add
  refine Kf.ite ?_ ?_
  · skip
    refine Kf.lt (fun v2 => ?_)
    refine Kf.ck ?_
    refine Kf.put h0 (hW _ _ _ _ (Or.inr (Or.inl ⟨rfl, rfl, rfl⟩))) (fun S4 h2 => ?_)
    refine Kf.put h2 (hW _ _ _ _ (Or.inr (Or.inr (Or.inl ⟨rfl, rfl, rfl⟩)))) (fun S5 h3 => ?_)
    refine Kf.put h3 (hW _ _ _ _ (Or.inr (Or.inr (Or.inr (Or.inl ⟨rfl, rfl, rfl⟩))))) (fun S6 h4 => ?_)
    refine Kf.put h4 (hW _ _ _ _ (Or.inr (Or.inr (Or.inr (Or.inr ⟨rfl, rfl, rfl⟩))))) (fun S7 h5 => ?_)
    refine Kf.put h5 (hW _ _ _ _ (Or.inl ⟨rfl, rfl, rfl, rfl⟩)) (fun S8 h6 => ?_)
    exact Kf.some h6
  · skip
    exact Kf.some h0
def zr_O_post (g : Nat) (r k i : Int) : Prop := (g = 0 ∧ r = 0 ∧ k = 26 ∧ i = 0) ∨ (g = 0 ∧ r = 0 ∧ k = 27) ∨ (g = 0 ∧ r = 0 ∧ k = 28) ∨ (g = 0 ∧ r = 0 ∧ k = 29) ∨ (g = 0 ∧ r = 0 ∧ k = 30)
theorem zk_O_post {W : Nat → Int → Int → Int → Prop} {S0 : Sg} (hW : ∀ g r k i, zr_O_post g r k i → W g r k i) : ∀ (x1 : Int) (x2 : Int) (x3 : Int) (S : Sg), Fm W S0 S → Kf W S0 (zf_O_post x1 x2 x3 S) := by
  intro x1 x2 x3 S h0
  unfold zf_O_post
  refine Kf.ite ?_ ?_
  · skip
    exact Kf.some h0
  · skip
    refine Kf.ite ?_ ?_
    · skip
      exact Kf.some h0
    · skip
      refine Kf.ite ?_ ?_
      · skip
        exact Kf.some h0
      · skip
        refine Kf.ite ?_ ?_
        · skip
          exact Kf.some h0
        · skip
          refine Kf.ite ?_ ?_
          · skip
            exact Kf.some h0
          · skip
            refine Kf.ite ?_ ?_
            · skip
              refine Kf.bd ((zk_Q_add (r0 := (0)) (fun g r k i h => hW g r k i (Or.elim h (fun h => (Or.inl ⟨h.1, h.2.1, h.2.2.1, h.2.2.2⟩)) (fun h => (Or.elim h (fun h => (Or.inr (Or.inl ⟨h.1, h.2.1, h.2.2⟩))) (fun h => (Or.elim h (fun h => (Or.inr (Or.inr (Or.inl ⟨h.1, h.2.1, h.2.2⟩)))) (fun h => (Or.elim h (fun h => (Or.inr (Or.inr (Or.inr (Or.inl ⟨h.1, h.2.1, h.2.2⟩))))) (fun h => (Or.inr (Or.inr (Or.inr (Or.inr ⟨h.1, h.2.1, h.2.2⟩)))))))))))))) _ _ _ _ h0) (fun a7 S8 h1 => ?_)
              exact Kf.some h1
            · skip
              exact Kf.some h0
def zr_Q_has (r0 : Int) (g : Nat) (r k i : Int) : Prop := False
theorem zk_Q_has {W : Nat → Int → Int → Int → Prop} {S0 : Sg} {r0 : Int} (hW : ∀ g r k i, zr_Q_has r0 g r k i → W g r k i) : ∀ (x1 : Int) (S : Sg), Fm W S0 S → Kf W S0 (zf_Q_has r0 x1 S) := by
  intro x1 S h0
  unfold zf_Q_has
  refine Kf.ite ?_ ?_
  · skip
    exact Kf.some h0
  · skip
    refine Kf.ite ?_ ?_
    · skip
      exact Kf.some h0
    · skip
      exact Kf.some h0
def zr_O_open (g : Nat) (r k i : Int) : Prop := (g = 0 ∧ r = 0 ∧ k = 30)
theorem zk_O_open_49 {W : Nat → Int → Int → Int → Prop} {S0 : Sg} (hW : ∀ g r k i, zr_O_open g r k i → W g r k i) : ∀ (x1 : Int) (x3 : Int) (xt1 : Int) (xt2 : Int) (S : Sg), Fm W S0 S → Kf W S0 (zf_O_open_49 x1 x3 xt1 xt2 S) := by
  intro x1 x3 xt1 xt2 S h0
  unfold zf_O_open_49
  refine Kf.ck ?_
  refine Kf.put h0 (hW _ _ _ _ ⟨rfl, rfl, rfl⟩) (fun S2 h1 => ?_)
  refine Kf.ck ?_
  refine Kf.ite ?_ ?_
  · skip
    exact Kf.some h1
  · skip
    exact Kf.some h1
theorem zk_O_open {W : Nat → Int → Int → Int → Prop} {S0 : Sg} (hW : ∀ g r k i, zr_O_open g r k i → W g r k i) : ∀ (x1 : Int) (x2 : Int) (S : Sg), Fm W S0 S → Kf W S0 (zf_O_open x1 x2 S) := by
  intro x1 x2 S h0
  unfold zf_O_open
  refine Kf.bd ((zk_Q_has (r0 := (0)) (fun _ _ _ _ h => h.elim)) _ _ h0) (fun a1 S2 h1 => ?_)
  refine Kf.ite ?_ ?_
  · skip
    exact Kf.some h1
  · skip
    refine Kf.ck ?_
    refine Kf.lt (fun v5 => ?_)
    refine Kf.ite ?_ ?_
    · skip
      exact (zk_O_open_49 hW) _ _ _ _ _ h1
    · skip
      exact (zk_O_open_49 hW) _ _ _ _ _ h1
def zr_C_asBefore (g : Nat) (r k i : Int) : Prop := False
theorem zk_C_asBefore_2 {W : Nat → Int → Int → Int → Prop} {S0 : Sg} (hW : ∀ g r k i, zr_C_asBefore g r k i → W g r k i) : ∀ (n : Nat) (x1 : Int) (S : Sg), Fm W S0 S → Kf W S0 (zf_C_asBefore_2 n x1 S) := by
  intro n
  induction n with
  | zero => intro x1 S h0; exact Kf.none
  | succ n ih =>
    intro x1 S h0
    rw [zf_C_asBefore_2]
    refine Kf.ite ?_ ?_
    · skip
      exact Kf.some h0
    · skip
      refine Kf.ck ?_
      refine Kf.ite ?_ ?_
      · skip
        refine Kf.ite ?_ ?_
        · skip
          refine Kf.lt (fun v5 => ?_)
          exact ih _ _ h0
        · skip
          exact Kf.some h0
      · skip
        exact Kf.some h0
theorem zk_C_asBefore {W : Nat → Int → Int → Int → Prop} {S0 : Sg} (hW : ∀ g r k i, zr_C_asBefore g r k i → W g r k i) : ∀ (S : Sg), Fm W S0 S → Kf W S0 (zf_C_asBefore S) := by
  intro S h0
  unfold zf_C_asBefore
  exact (zk_C_asBefore_2 hW) 4096 _ _ h0
def zr_Q_wantedSkills (r0 : Int) (g : Nat) (r k i : Int) : Prop := False
theorem zk_Q_wantedSkills_33 {W : Nat → Int → Int → Int → Prop} {S0 : Sg} {r0 : Int} (hW : ∀ g r k i, zr_Q_wantedSkills r0 g r k i → W g r k i) {q4 : Int → Int → Sg → Option (Int × Sg)} (hq4 : ∀ (x0 x1 : Int) (S : Sg), Fm W S0 S → Kf W S0 (q4 x0 x1 S)) : ∀ (x1 : Int) (x2 : Int) (S : Sg), Fm W S0 S → Kf W S0 (zf_Q_wantedSkills_33 r0 q4 x1 x2 S) := by
  intro x1 x2 S h0
  unfold zf_Q_wantedSkills_33
  refine Kf.lt (fun v1 => ?_)
  exact hq4 _ _ _ h0
theorem zk_Q_wantedSkills_4 {W : Nat → Int → Int → Int → Prop} {S0 : Sg} {r0 : Int} (hW : ∀ g r k i, zr_Q_wantedSkills r0 g r k i → W g r k i) : ∀ (n : Nat) (x1 x2 : Int) (S : Sg), Fm W S0 S → Kf W S0 (zf_Q_wantedSkills_4 r0 n x1 x2 S) := by
  intro n
  induction n with
  | zero => intro x1 x2 S h0; exact Kf.none
  | succ n ih =>
    intro x1 x2 S h0
    rw [zf_Q_wantedSkills_4]
    refine Kf.ite ?_ ?_
    · skip
      exact Kf.some h0
    · skip
      refine Kf.ck ?_
      refine Kf.ite ?_ ?_
      · skip
        refine Kf.lt (fun v4 => ?_)
        exact (zk_Q_wantedSkills_33 (r0 := r0) hW ih) _ _ _ h0
      · skip
        exact (zk_Q_wantedSkills_33 (r0 := r0) hW ih) _ _ _ h0
theorem zk_Q_wantedSkills {W : Nat → Int → Int → Int → Prop} {S0 : Sg} {r0 : Int} (hW : ∀ g r k i, zr_Q_wantedSkills r0 g r k i → W g r k i) : ∀ (S : Sg), Fm W S0 S → Kf W S0 (zf_Q_wantedSkills r0 S) := by
  intro S h0
  unfold zf_Q_wantedSkills
  exact (zk_Q_wantedSkills_4 (r0 := r0) hW) 4096 _ _ _ h0
def zr_C_ask (r1 : Int) (g : Nat) (r k i : Int) : Prop := (g = 20 ∧ r = 0 ∧ k = 1) ∨ (g = 3 ∧ r = 0 ∧ k = 11) ∨ (g = 3 ∧ r = 0 ∧ k = 7 ∧ i = 2) ∨ (g = 3 ∧ r = 0 ∧ k = 8) ∨ (g = 3 ∧ r = 0 ∧ k = 9)
theorem zk_C_ask_209 {W : Nat → Int → Int → Int → Prop} {S0 : Sg} {r1 : Int} (hW : ∀ g r k i, zr_C_ask r1 g r k i → W g r k i) {q68 : Int → Int → Int → Sg → Option (Int × Sg)} (hq68 : ∀ (x0 x1 x2 : Int) (S : Sg), Fm W S0 S → Kf W S0 (q68 x0 x1 x2 S)) : ∀ (x4 : Int) (x5 : Int) (x7 : Int) (S : Sg), Fm W S0 S → Kf W S0 (zf_C_ask_209 r1 q68 x4 x5 x7 S) := by
  intro x4 x5 x7 S h0
  unfold zf_C_ask_209
  refine Kf.lt (fun v1 => ?_)
  exact hq68 _ _ _ _ h0
theorem zk_C_ask_203 {W : Nat → Int → Int → Int → Prop} {S0 : Sg} {r1 : Int} (hW : ∀ g r k i, zr_C_ask r1 g r k i → W g r k i) {q68 : Int → Int → Int → Sg → Option (Int × Sg)} (hq68 : ∀ (x0 x1 x2 : Int) (S : Sg), Fm W S0 S → Kf W S0 (q68 x0 x1 x2 S)) {q153 : Int → Int → Int → Int → Int → Sg → Option (Int × Sg)} (hq153 : ∀ (x0 x1 x2 x3 x4 : Int) (S : Sg), Fm W S0 S → Kf W S0 (q153 x0 x1 x2 x3 x4 S)) : ∀ (x4 : Int) (x5 : Int) (x7 : Int) (x8 : Int) (x10 : Int) (S : Sg), Fm W S0 S → Kf W S0 (zf_C_ask_203 r1 q68 q153 x4 x5 x7 x8 x10 S) := by
  intro x4 x5 x7 x8 x10 S h0
  unfold zf_C_ask_203
  refine Kf.lt (fun v1 => ?_)
  exact hq153 _ _ _ _ _ _ h0
theorem zk_C_ask_153 {W : Nat → Int → Int → Int → Prop} {S0 : Sg} {r1 : Int} (hW : ∀ g r k i, zr_C_ask r1 g r k i → W g r k i) {q68 : Int → Int → Int → Sg → Option (Int × Sg)} (hq68 : ∀ (x0 x1 x2 : Int) (S : Sg), Fm W S0 S → Kf W S0 (q68 x0 x1 x2 S)) : ∀ (n : Nat) (x4 x5 x7 x8 x10 : Int) (S : Sg), Fm W S0 S → Kf W S0 (zf_C_ask_153 r1 q68 n x4 x5 x7 x8 x10 S) := by
  intro n
  induction n with
  | zero => intro x4 x5 x7 x8 x10 S h0; exact Kf.none
  | succ n ih =>
    intro x4 x5 x7 x8 x10 S h0
    rw [zf_C_ask_153]
    refine Kf.ite ?_ ?_
    · skip
      exact (zk_C_ask_209 (r1 := r1) hW hq68) _ _ _ _ h0
    · skip
      refine Kf.ck ?_
      refine Kf.ite ?_ ?_
      · skip
        refine Kf.ite ?_ ?_
        · skip
          refine Kf.put h0 (hW _ _ _ _ (Or.inl ⟨rfl, rfl, rfl⟩)) (fun S5 h1 => ?_)
          exact (zk_C_ask_203 (r1 := r1) hW hq68 ih) _ _ _ _ _ _ h1
        · skip
          exact (zk_C_ask_203 (r1 := r1) hW hq68 ih) _ _ _ _ _ _ h0
      · skip
        exact (zk_C_ask_203 (r1 := r1) hW hq68 ih) _ _ _ _ _ _ h0
theorem zk_C_ask_127 {W : Nat → Int → Int → Int → Prop} {S0 : Sg} {r1 : Int} (hW : ∀ g r k i, zr_C_ask r1 g r k i → W g r k i) {q68 : Int → Int → Int → Sg → Option (Int × Sg)} (hq68 : ∀ (x0 x1 x2 : Int) (S : Sg), Fm W S0 S → Kf W S0 (q68 x0 x1 x2 S)) : ∀ (x4 : Int) (x5 : Int) (x7 : Int) (x8 : Int) (S : Sg), Fm W S0 S → Kf W S0 (zf_C_ask_127 r1 q68 x4 x5 x7 x8 S) := by
  intro x4 x5 x7 x8 S h0
  unfold zf_C_ask_127
  refine Kf.bd ((zk_J_allows (r1 := (r1)) (fun g r k i h => hW g r k i (Or.elim h (fun h => (Or.inr (Or.inr (Or.inl ⟨h.1, h.2.1, h.2.2.1, h.2.2.2⟩)))) (fun h => (Or.elim h (fun h => (Or.inr (Or.inr (Or.inr (Or.inl ⟨h.1, h.2.1, h.2.2⟩))))) (fun h => (Or.inr (Or.inr (Or.inr (Or.inr ⟨h.1, h.2.1, h.2.2⟩)))))))))) _ _ _ h0) (fun a1 S2 h1 => ?_)
  refine Kf.ite ?_ ?_
  · skip
    exact (zk_C_ask_209 (r1 := r1) hW hq68) _ _ _ _ h1
  · skip
    refine Kf.lt (fun v4 => ?_)
    exact (zk_C_ask_153 (r1 := r1) hW hq68) 4096 _ _ _ _ _ _ h1
theorem zk_C_ask_68 {W : Nat → Int → Int → Int → Prop} {S0 : Sg} {r1 : Int} (hW : ∀ g r k i, zr_C_ask r1 g r k i → W g r k i) : ∀ (n : Nat) (x4 x5 x7 : Int) (S : Sg), Fm W S0 S → Kf W S0 (zf_C_ask_68 r1 n x4 x5 x7 S) := by
  intro n
  induction n with
  | zero => intro x4 x5 x7 S h0; exact Kf.none
  | succ n ih =>
    intro x4 x5 x7 S h0
    rw [zf_C_ask_68]
    refine Kf.ite ?_ ?_
    · skip
      exact Kf.some h0
    · skip
      refine Kf.ck ?_
      refine Kf.lt (fun v3 => ?_)
      refine Kf.bd ((zk_P_kind (r0 := (r1)) (fun _ _ _ _ h => h.elim)) _ _ _ h0) (fun a4 S5 h2 => ?_)
      refine Kf.ite ?_ ?_
      · skip
        exact (zk_C_ask_209 (r1 := r1) hW ih) _ _ _ _ h2
      · skip
        refine Kf.ite ?_ ?_
        · skip
          exact (zk_C_ask_127 (r1 := r1) hW ih) _ _ _ _ _ h2
        · skip
          refine Kf.ite ?_ ?_
          · skip
            exact (zk_C_ask_127 (r1 := r1) hW ih) _ _ _ _ _ h2
          · skip
            exact (zk_C_ask_209 (r1 := r1) hW ih) _ _ _ _ h2
theorem zk_C_ask_49 {W : Nat → Int → Int → Int → Prop} {S0 : Sg} {r1 : Int} (hW : ∀ g r k i, zr_C_ask r1 g r k i → W g r k i) {q8 : Int → Sg → Option (Int × Sg)} (hq8 : ∀ (x0 : Int) (S : Sg), Fm W S0 S → Kf W S0 (q8 x0 S)) : ∀ (x4 : Int) (xt1 : Int) (xt2 : Int) (S : Sg), Fm W S0 S → Kf W S0 (zf_C_ask_49 r1 q8 x4 xt1 xt2 S) := by
  intro x4 xt1 xt2 S h0
  unfold zf_C_ask_49
  refine Kf.ck ?_
  refine Kf.put h0 (hW _ _ _ _ (Or.inr (Or.inl ⟨rfl, rfl, rfl⟩))) (fun S2 h1 => ?_)
  refine Kf.lt (fun v3 => ?_)
  exact hq8 _ _ h1
theorem zk_C_ask_8 {W : Nat → Int → Int → Int → Prop} {S0 : Sg} {r1 : Int} (hW : ∀ g r k i, zr_C_ask r1 g r k i → W g r k i) : ∀ (n : Nat) (x4 : Int) (S : Sg), Fm W S0 S → Kf W S0 (zf_C_ask_8 r1 n x4 S) := by
  intro n
  induction n with
  | zero => intro x4 S h0; exact Kf.none
  | succ n ih =>
    intro x4 S h0
    rw [zf_C_ask_8]
    refine Kf.ite ?_ ?_
    · skip
      refine Kf.bd ((zk_Q_wantedSkills (r0 := (r1)) (fun _ _ _ _ h => h.elim)) _ h0) (fun a2 S3 h1 => ?_)
      exact (zk_C_ask_68 (r1 := r1) hW) 4096 _ _ _ _ h1
    · skip
      refine Kf.ck ?_
      refine Kf.put h0 (hW _ _ _ _ (Or.inl ⟨rfl, rfl, rfl⟩)) (fun S5 h2 => ?_)
      refine Kf.ite ?_ ?_
      · skip
        exact (zk_C_ask_49 (r1 := r1) hW ih) _ _ _ _ h2
      · skip
        exact (zk_C_ask_49 (r1 := r1) hW ih) _ _ _ _ h2
theorem zk_C_ask {W : Nat → Int → Int → Int → Prop} {S0 : Sg} {r1 : Int} (hW : ∀ g r k i, zr_C_ask r1 g r k i → W g r k i) : ∀ (S : Sg), Fm W S0 S → Kf W S0 (zf_C_ask r1 S) := by
  intro S h0
  unfold zf_C_ask
  exact (zk_C_ask_8 (r1 := r1) hW) 4096 _ _ h0
def zr_C_goodOf (g : Nat) (r k i : Int) : Prop := False
theorem zk_C_goodOf {W : Nat → Int → Int → Int → Prop} {S0 : Sg} (hW : ∀ g r k i, zr_C_goodOf g r k i → W g r k i) : ∀ (x0 : Int) (S : Sg), Fm W S0 S → Kf W S0 (zf_C_goodOf x0 S) := by
  intro x0 S h0
  unfold zf_C_goodOf
  exact Kf.some h0
def zr_C_leastSet (g : Nat) (r k i : Int) : Prop := False
theorem zk_C_leastSet_79 {W : Nat → Int → Int → Int → Prop} {S0 : Sg} (hW : ∀ g r k i, zr_C_leastSet g r k i → W g r k i) {q20 : Int → Int → Int → Int → Int → Sg → Option (Int × Sg)} (hq20 : ∀ (x0 x1 x2 x3 x4 : Int) (S : Sg), Fm W S0 S → Kf W S0 (q20 x0 x1 x2 x3 x4 S)) : ∀ (x1 : Int) (x2 : Int) (x3 : Int) (x4 : Int) (x5 : Int) (S : Sg), Fm W S0 S → Kf W S0 (zf_C_leastSet_79 q20 x1 x2 x3 x4 x5 S) := by
  intro x1 x2 x3 x4 x5 S h0
  unfold zf_C_leastSet_79
  refine Kf.lt (fun v1 => ?_)
  refine Kf.lt (fun v2 => ?_)
  exact hq20 _ _ _ _ _ _ h0
theorem zk_C_leastSet_20 {W : Nat → Int → Int → Int → Prop} {S0 : Sg} (hW : ∀ g r k i, zr_C_leastSet g r k i → W g r k i) : ∀ (n : Nat) (x1 x2 x3 x4 x5 : Int) (S : Sg), Fm W S0 S → Kf W S0 (zf_C_leastSet_20 n x1 x2 x3 x4 x5 S) := by
  intro n
  induction n with
  | zero => intro x1 x2 x3 x4 x5 S h0; exact Kf.none
  | succ n ih =>
    intro x1 x2 x3 x4 x5 S h0
    rw [zf_C_leastSet_20]
    refine Kf.ite ?_ ?_
    · skip
      exact Kf.some h0
    · skip
      refine Kf.ite ?_ ?_
      · skip
        exact Kf.some h0
      · skip
        refine Kf.bd ((zk_Ji_bitCount (fun _ _ _ _ h => h.elim)) _ _ h0) (fun a3 S4 h1 => ?_)
        refine Kf.ck ?_
        refine Kf.ite ?_ ?_
        · skip
          refine Kf.bd ((zk_C_goodOf (fun _ _ _ _ h => h.elim)) _ _ h1) (fun a7 S8 h2 => ?_)
          refine Kf.ck ?_
          refine Kf.ck ?_
          refine Kf.ck ?_
          refine Kf.ck ?_
          refine Kf.ite ?_ ?_
          · skip
            exact Kf.some h2
          · skip
            exact (zk_C_leastSet_79 hW ih) _ _ _ _ _ _ h2
        · skip
          exact (zk_C_leastSet_79 hW ih) _ _ _ _ _ _ h1
theorem zk_C_leastSet {W : Nat → Int → Int → Int → Prop} {S0 : Sg} (hW : ∀ g r k i, zr_C_leastSet g r k i → W g r k i) : ∀ (x1 : Int) (x2 : Int) (S : Sg), Fm W S0 S → Kf W S0 (zf_C_leastSet x1 x2 S) := by
  intro x1 x2 S h0
  unfold zf_C_leastSet
  refine Kf.ck ?_
  refine Kf.lt (fun v2 => ?_)
  refine Kf.lt (fun v3 => ?_)
  exact (zk_C_leastSet_20 hW) 4096 _ _ _ _ _ _ h0
def zr_C_nameFew (g : Nat) (r k i : Int) : Prop := (g = 3 ∧ r = 0 ∧ k = 13) ∨ (g = 3 ∧ r = 0 ∧ k = 14)
theorem zk_C_nameFew_67 {W : Nat → Int → Int → Int → Prop} {S0 : Sg} (hW : ∀ g r k i, zr_C_nameFew g r k i → W g r k i) {q49 : Int → Int → Sg → Option (Int × Sg)} (hq49 : ∀ (x0 x1 : Int) (S : Sg), Fm W S0 S → Kf W S0 (q49 x0 x1 S)) : ∀ (n : Nat) (x3 x4 x5 : Int) (S : Sg), Fm W S0 S → Kf W S0 (zf_C_nameFew_67 q49 n x3 x4 x5 S) := by
  intro n
  induction n with
  | zero => intro x3 x4 x5 S h0; exact Kf.none
  | succ n ih =>
    intro x3 x4 x5 S h0
    rw [zf_C_nameFew_67]
    refine Kf.ite ?_ ?_
    · skip
      refine Kf.lt (fun v2 => ?_)
      exact hq49 _ _ _ h0
    · skip
      refine Kf.ck ?_
      refine Kf.ck ?_
      refine Kf.put h0 (hW _ _ _ _ (Or.inr ⟨rfl, rfl, rfl⟩)) (fun S5 h2 => ?_)
      refine Kf.lt (fun v6 => ?_)
      exact ih _ _ _ _ h2
theorem zk_C_nameFew_49 {W : Nat → Int → Int → Int → Prop} {S0 : Sg} (hW : ∀ g r k i, zr_C_nameFew g r k i → W g r k i) : ∀ (n : Nat) (x3 x4 : Int) (S : Sg), Fm W S0 S → Kf W S0 (zf_C_nameFew_49 n x3 x4 S) := by
  intro n
  induction n with
  | zero => intro x3 x4 S h0; exact Kf.none
  | succ n ih =>
    intro x3 x4 S h0
    rw [zf_C_nameFew_49]
    refine Kf.ite ?_ ?_
    · skip
      exact Kf.some h0
    · skip
      refine Kf.ck ?_
      refine Kf.put h0 (hW _ _ _ _ (Or.inr ⟨rfl, rfl, rfl⟩)) (fun S3 h1 => ?_)
      exact (zk_C_nameFew_67 hW ih) 4096 _ _ _ _ h1
theorem zk_C_nameFew_46 {W : Nat → Int → Int → Int → Prop} {S0 : Sg} (hW : ∀ g r k i, zr_C_nameFew g r k i → W g r k i) : ∀ (x3 : Int) (S : Sg), Fm W S0 S → Kf W S0 (zf_C_nameFew_46 x3 S) := by
  intro x3 S h0
  unfold zf_C_nameFew_46
  exact (zk_C_nameFew_49 hW) 4096 _ _ _ h0
theorem zk_C_nameFew_40 {W : Nat → Int → Int → Int → Prop} {S0 : Sg} (hW : ∀ g r k i, zr_C_nameFew g r k i → W g r k i) {q5 : Int → Int → Int → Sg → Option (Int × Sg)} (hq5 : ∀ (x0 x1 x2 : Int) (S : Sg), Fm W S0 S → Kf W S0 (q5 x0 x1 x2 S)) : ∀ (x1 : Int) (x3 : Int) (x4 : Int) (S : Sg), Fm W S0 S → Kf W S0 (zf_C_nameFew_40 q5 x1 x3 x4 S) := by
  intro x1 x3 x4 S h0
  unfold zf_C_nameFew_40
  refine Kf.lt (fun v1 => ?_)
  exact hq5 _ _ _ _ h0
theorem zk_C_nameFew_5 {W : Nat → Int → Int → Int → Prop} {S0 : Sg} (hW : ∀ g r k i, zr_C_nameFew g r k i → W g r k i) : ∀ (n : Nat) (x1 x3 x4 : Int) (S : Sg), Fm W S0 S → Kf W S0 (zf_C_nameFew_5 n x1 x3 x4 S) := by
  intro n
  induction n with
  | zero => intro x1 x3 x4 S h0; exact Kf.none
  | succ n ih =>
    intro x1 x3 x4 S h0
    rw [zf_C_nameFew_5]
    refine Kf.ite ?_ ?_
    · skip
      exact (zk_C_nameFew_46 hW) _ _ h0
    · skip
      refine Kf.ite ?_ ?_
      · skip
        exact (zk_C_nameFew_46 hW) _ _ h0
      · skip
        refine Kf.ite ?_ ?_
        · skip
          refine Kf.ck ?_
          refine Kf.put h0 (hW _ _ _ _ (Or.inl ⟨rfl, rfl, rfl⟩)) (fun S5 h1 => ?_)
          refine Kf.lt (fun v6 => ?_)
          exact (zk_C_nameFew_40 hW ih) _ _ _ _ h1
        · skip
          exact (zk_C_nameFew_40 hW ih) _ _ _ _ h0
theorem zk_C_nameFew {W : Nat → Int → Int → Int → Prop} {S0 : Sg} (hW : ∀ g r k i, zr_C_nameFew g r k i → W g r k i) : ∀ (x1 : Int) (S : Sg), Fm W S0 S → Kf W S0 (zf_C_nameFew x1 S) := by
  intro x1 S h0
  unfold zf_C_nameFew
  exact (zk_C_nameFew_5 hW) 4096 _ _ _ _ h0
def zr_C_peopleOf (g : Nat) (r k i : Int) : Prop := False
theorem zk_C_peopleOf_33 {W : Nat → Int → Int → Int → Prop} {S0 : Sg} (hW : ∀ g r k i, zr_C_peopleOf g r k i → W g r k i) {q5 : Int → Int → Int → Int → Sg → Option (Int × Sg)} (hq5 : ∀ (x0 x1 x2 x3 : Int) (S : Sg), Fm W S0 S → Kf W S0 (q5 x0 x1 x2 x3 S)) : ∀ (x1 : Int) (x2 : Int) (x3 : Int) (x5 : Int) (S : Sg), Fm W S0 S → Kf W S0 (zf_C_peopleOf_33 q5 x1 x2 x3 x5 S) := by
  intro x1 x2 x3 x5 S h0
  unfold zf_C_peopleOf_33
  refine Kf.lt (fun v1 => ?_)
  exact hq5 _ _ _ _ _ h0
theorem zk_C_peopleOf_5 {W : Nat → Int → Int → Int → Prop} {S0 : Sg} (hW : ∀ g r k i, zr_C_peopleOf g r k i → W g r k i) : ∀ (n : Nat) (x1 x2 x3 x5 : Int) (S : Sg), Fm W S0 S → Kf W S0 (zf_C_peopleOf_5 n x1 x2 x3 x5 S) := by
  intro n
  induction n with
  | zero => intro x1 x2 x3 x5 S h0; exact Kf.none
  | succ n ih =>
    intro x1 x2 x3 x5 S h0
    rw [zf_C_peopleOf_5]
    refine Kf.ite ?_ ?_
    · skip
      exact Kf.some h0
    · skip
      refine Kf.ite ?_ ?_
      · skip
        refine Kf.ck ?_
        refine Kf.lt (fun v4 => ?_)
        exact (zk_C_peopleOf_33 hW ih) _ _ _ _ _ h0
      · skip
        exact (zk_C_peopleOf_33 hW ih) _ _ _ _ _ h0
theorem zk_C_peopleOf {W : Nat → Int → Int → Int → Prop} {S0 : Sg} (hW : ∀ g r k i, zr_C_peopleOf g r k i → W g r k i) : ∀ (x1 : Int) (x2 : Int) (S : Sg), Fm W S0 S → Kf W S0 (zf_C_peopleOf x1 x2 S) := by
  intro x1 x2 S h0
  unfold zf_C_peopleOf
  exact (zk_C_peopleOf_5 hW) 4096 _ _ _ _ _ h0
def zr_C_mostBySet (g : Nat) (r k i : Int) : Prop := False
theorem zk_C_mostBySet_68 {W : Nat → Int → Int → Int → Prop} {S0 : Sg} (hW : ∀ g r k i, zr_C_mostBySet g r k i → W g r k i) {q22 : Int → Int → Int → Int → Int → Int → Int → Sg → Option (Int × Sg)} (hq22 : ∀ (x0 x1 x2 x3 x4 x5 x6 : Int) (S : Sg), Fm W S0 S → Kf W S0 (q22 x0 x1 x2 x3 x4 x5 x6 S)) : ∀ (x1 : Int) (x2 : Int) (x3 : Int) (y4 : Int) (x5 : Int) (x6 : Int) (x7 : Int) (S : Sg), Fm W S0 S → Kf W S0 (zf_C_mostBySet_68 q22 x1 x2 x3 y4 x5 x6 x7 S) := by
  intro x1 x2 x3 y4 x5 x6 x7 S h0
  unfold zf_C_mostBySet_68
  refine Kf.lt (fun v1 => ?_)
  refine Kf.lt (fun v2 => ?_)
  exact hq22 _ _ _ _ _ _ _ _ h0
theorem zk_C_mostBySet_22 {W : Nat → Int → Int → Int → Prop} {S0 : Sg} (hW : ∀ g r k i, zr_C_mostBySet g r k i → W g r k i) : ∀ (n : Nat) (x1 x2 x3 y4 x5 x6 x7 : Int) (S : Sg), Fm W S0 S → Kf W S0 (zf_C_mostBySet_22 n x1 x2 x3 y4 x5 x6 x7 S) := by
  intro n
  induction n with
  | zero => intro x1 x2 x3 y4 x5 x6 x7 S h0; exact Kf.none
  | succ n ih =>
    intro x1 x2 x3 y4 x5 x6 x7 S h0
    rw [zf_C_mostBySet_22]
    refine Kf.ite ?_ ?_
    · skip
      exact Kf.some h0
    · skip
      refine Kf.ite ?_ ?_
      · skip
        exact Kf.some h0
      · skip
        refine Kf.bd ((zk_Ji_bitCount (fun _ _ _ _ h => h.elim)) _ _ h0) (fun a3 S4 h1 => ?_)
        refine Kf.ck ?_
        refine Kf.ite ?_ ?_
        · skip
          refine Kf.bd ((zk_C_goodOf (fun _ _ _ _ h => h.elim)) _ _ h1) (fun a7 S8 h2 => ?_)
          refine Kf.ck ?_
          refine Kf.lt (fun v10 => ?_)
          exact (zk_C_mostBySet_68 hW ih) _ _ _ _ _ _ _ _ h2
        · skip
          exact (zk_C_mostBySet_68 hW ih) _ _ _ _ _ _ _ _ h1
theorem zk_C_mostBySet {W : Nat → Int → Int → Int → Prop} {S0 : Sg} (hW : ∀ g r k i, zr_C_mostBySet g r k i → W g r k i) : ∀ (x1 : Int) (x2 : Int) (x3 : Int) (S : Sg), Fm W S0 S → Kf W S0 (zf_C_mostBySet x1 x2 x3 S) := by
  intro x1 x2 x3 S h0
  unfold zf_C_mostBySet
  refine Kf.ck ?_
  refine Kf.lt (fun v2 => ?_)
  exact (zk_C_mostBySet_22 hW) 4096 _ _ _ _ _ _ _ _ h0
def zr_C_weighAll (g : Nat) (r k i : Int) : Prop := (g = 4 ∧ k = 0)
theorem zk_C_weighAll_138 {W : Nat → Int → Int → Int → Prop} {S0 : Sg} (hW : ∀ g r k i, zr_C_weighAll g r k i → W g r k i) {q33 : Int → Int → Sg → Option (Int × Sg)} (hq33 : ∀ (x0 x1 : Int) (S : Sg), Fm W S0 S → Kf W S0 (q33 x0 x1 S)) : ∀ (x1 : Int) (x2 : Int) (S : Sg), Fm W S0 S → Kf W S0 (zf_C_weighAll_138 q33 x1 x2 S) := by
  intro x1 x2 S h0
  unfold zf_C_weighAll_138
  refine Kf.lt (fun v1 => ?_)
  exact hq33 _ _ _ h0
theorem zk_C_weighAll_121 {W : Nat → Int → Int → Int → Prop} {S0 : Sg} (hW : ∀ g r k i, zr_C_weighAll g r k i → W g r k i) {q33 : Int → Int → Sg → Option (Int × Sg)} (hq33 : ∀ (x0 x1 : Int) (S : Sg), Fm W S0 S → Kf W S0 (q33 x0 x1 S)) {q49 : Int → Int → Int → Int → Sg → Option (Int × Sg)} (hq49 : ∀ (x0 x1 x2 x3 : Int) (S : Sg), Fm W S0 S → Kf W S0 (q49 x0 x1 x2 x3 S)) : ∀ (x1 : Int) (x2 : Int) (y3 : Int) (x4 : Int) (x6 : Int) (S : Sg), Fm W S0 S → Kf W S0 (zf_C_weighAll_121 q33 q49 x1 x2 y3 x4 x6 S) := by
  intro x1 x2 y3 x4 x6 S h0
  unfold zf_C_weighAll_121
  refine Kf.ck ?_
  refine Kf.ck ?_
  refine Kf.put h0 (hW _ _ _ _ ⟨rfl, rfl⟩) (fun S3 h1 => ?_)
  refine Kf.lt (fun v4 => ?_)
  exact hq49 _ _ _ _ _ h1
theorem zk_C_weighAll_49 {W : Nat → Int → Int → Int → Prop} {S0 : Sg} (hW : ∀ g r k i, zr_C_weighAll g r k i → W g r k i) {q33 : Int → Int → Sg → Option (Int × Sg)} (hq33 : ∀ (x0 x1 : Int) (S : Sg), Fm W S0 S → Kf W S0 (q33 x0 x1 S)) : ∀ (n : Nat) (x1 x2 y3 x4 : Int) (S : Sg), Fm W S0 S → Kf W S0 (zf_C_weighAll_49 q33 n x1 x2 y3 x4 S) := by
  intro n
  induction n with
  | zero => intro x1 x2 y3 x4 S h0; exact Kf.none
  | succ n ih =>
    intro x1 x2 y3 x4 S h0
    rw [zf_C_weighAll_49]
    refine Kf.ite ?_ ?_
    · skip
      exact (zk_C_weighAll_138 hW hq33) _ _ _ h0
    · skip
      refine Kf.ite ?_ ?_
      · skip
        exact (zk_C_weighAll_138 hW hq33) _ _ _ h0
      · skip
        refine Kf.ck ?_
        refine Kf.lt (fun v4 => ?_)
        refine Kf.ck ?_
        refine Kf.lt (fun v6 => ?_)
        refine Kf.ite ?_ ?_
        · skip
          exact (zk_C_weighAll_121 hW hq33 ih) _ _ _ _ _ _ h0
        · skip
          refine Kf.bd ((zk_Ji_bitCount (fun _ _ _ _ h => h.elim)) _ _ h0) (fun a8 S9 h3 => ?_)
          refine Kf.ite ?_ ?_
          · skip
            exact (zk_C_weighAll_121 hW hq33 ih) _ _ _ _ _ _ h3
          · skip
            refine Kf.bd ((zk_C_mostBySet (fun _ _ _ _ h => h.elim)) _ _ _ _ h3) (fun a11 S12 h4 => ?_)
            refine Kf.lt (fun v13 => ?_)
            exact (zk_C_weighAll_121 hW hq33 ih) _ _ _ _ _ _ h4
theorem zk_C_weighAll_33 {W : Nat → Int → Int → Int → Prop} {S0 : Sg} (hW : ∀ g r k i, zr_C_weighAll g r k i → W g r k i) : ∀ (n : Nat) (x1 x2 : Int) (S : Sg), Fm W S0 S → Kf W S0 (zf_C_weighAll_33 n x1 x2 S) := by
  intro n
  induction n with
  | zero => intro x1 x2 S h0; exact Kf.none
  | succ n ih =>
    intro x1 x2 S h0
    rw [zf_C_weighAll_33]
    refine Kf.ite ?_ ?_
    · skip
      exact Kf.some h0
    · skip
      refine Kf.ck ?_
      exact (zk_C_weighAll_49 hW ih) 4096 _ _ _ _ _ h0
theorem zk_C_weighAll_30 {W : Nat → Int → Int → Int → Prop} {S0 : Sg} (hW : ∀ g r k i, zr_C_weighAll g r k i → W g r k i) : ∀ (x1 : Int) (S : Sg), Fm W S0 S → Kf W S0 (zf_C_weighAll_30 x1 S) := by
  intro x1 S h0
  unfold zf_C_weighAll_30
  exact (zk_C_weighAll_33 hW) 4096 _ _ _ h0
theorem zk_C_weighAll_2 {W : Nat → Int → Int → Int → Prop} {S0 : Sg} (hW : ∀ g r k i, zr_C_weighAll g r k i → W g r k i) : ∀ (n : Nat) (x1 x2 : Int) (S : Sg), Fm W S0 S → Kf W S0 (zf_C_weighAll_2 n x1 x2 S) := by
  intro n
  induction n with
  | zero => intro x1 x2 S h0; exact Kf.none
  | succ n ih =>
    intro x1 x2 S h0
    rw [zf_C_weighAll_2]
    refine Kf.ite ?_ ?_
    · skip
      exact (zk_C_weighAll_30 hW) _ _ h0
    · skip
      refine Kf.ite ?_ ?_
      · skip
        exact (zk_C_weighAll_30 hW) _ _ h0
      · skip
        refine Kf.ck ?_
        refine Kf.put h0 (hW _ _ _ _ ⟨rfl, rfl⟩) (fun S4 h1 => ?_)
        refine Kf.lt (fun v5 => ?_)
        exact ih _ _ _ h1
theorem zk_C_weighAll {W : Nat → Int → Int → Int → Prop} {S0 : Sg} (hW : ∀ g r k i, zr_C_weighAll g r k i → W g r k i) : ∀ (x1 : Int) (S : Sg), Fm W S0 S → Kf W S0 (zf_C_weighAll x1 S) := by
  intro x1 S h0
  unfold zf_C_weighAll
  exact (zk_C_weighAll_2 hW) 4096 _ _ _ h0
def zr_C_fillBest (g : Nat) (r k i : Int) : Prop := (g = 20 ∧ r = 0 ∧ k = 0) ∨ (g = 3 ∧ r = 0 ∧ k = 13) ∨ (g = 3 ∧ r = 0 ∧ k = 14) ∨ (g = 4 ∧ k = 0)
theorem zk_C_fillBest_63 {W : Nat → Int → Int → Int → Prop} {S0 : Sg} (hW : ∀ g r k i, zr_C_fillBest g r k i → W g r k i) {q19 : Int → Int → Int → Sg → Option (Int × Sg)} (hq19 : ∀ (x0 x1 x2 : Int) (S : Sg), Fm W S0 S → Kf W S0 (q19 x0 x1 x2 S)) : ∀ (x3 : Int) (x4 : Int) (x5 : Int) (xt0 : Int) (S : Sg), Fm W S0 S → Kf W S0 (zf_C_fillBest_63 q19 x3 x4 x5 xt0 S) := by
  intro x3 x4 x5 xt0 S h0
  unfold zf_C_fillBest_63
  refine Kf.lt (fun v1 => ?_)
  refine Kf.bd ((zk_C_peopleOf (fun _ _ _ _ h => h.elim)) _ _ _ h0) (fun a2 S3 h2 => ?_)
  refine Kf.ck ?_
  refine Kf.put h2 (hW _ _ _ _ (Or.inl ⟨rfl, rfl, rfl⟩)) (fun S5 h3 => ?_)
  refine Kf.lt (fun v6 => ?_)
  exact hq19 _ _ _ _ h3
theorem zk_C_fillBest_19 {W : Nat → Int → Int → Int → Prop} {S0 : Sg} (hW : ∀ g r k i, zr_C_fillBest g r k i → W g r k i) : ∀ (n : Nat) (x3 x4 x5 : Int) (S : Sg), Fm W S0 S → Kf W S0 (zf_C_fillBest_19 n x3 x4 x5 S) := by
  intro n
  induction n with
  | zero => intro x3 x4 x5 S h0; exact Kf.none
  | succ n ih =>
    intro x3 x4 x5 S h0
    rw [zf_C_fillBest_19]
    refine Kf.ite ?_ ?_
    · skip
      exact Kf.some h0
    · skip
      refine Kf.ck ?_
      refine Kf.ck ?_
      refine Kf.ck ?_
      refine Kf.ite ?_ ?_
      · skip
        exact (zk_C_fillBest_63 hW ih) _ _ _ _ _ h0
      · skip
        refine Kf.bd ((zk_C_leastSet (fun _ _ _ _ h => h.elim)) _ _ _ h0) (fun a6 S7 h1 => ?_)
        exact (zk_C_fillBest_63 hW ih) _ _ _ _ _ h1
theorem zk_C_fillBest {W : Nat → Int → Int → Int → Prop} {S0 : Sg} (hW : ∀ g r k i, zr_C_fillBest g r k i → W g r k i) : ∀ (x1 : Int) (S : Sg), Fm W S0 S → Kf W S0 (zf_C_fillBest x1 S) := by
  intro x1 S h0
  unfold zf_C_fillBest
  refine Kf.bd ((zk_C_nameFew (fun g r k i h => hW g r k i (Or.elim h (fun h => (Or.inr (Or.inl ⟨h.1, h.2.1, h.2.2⟩))) (fun h => (Or.inr (Or.inr (Or.inl ⟨h.1, h.2.1, h.2.2⟩))))))) _ _ h0) (fun a1 S2 h1 => ?_)
  refine Kf.bd ((zk_C_weighAll (fun g r k i h => hW g r k i (Or.inr (Or.inr (Or.inr ⟨h.1, h.2⟩))))) _ _ h1) (fun a3 S4 h2 => ?_)
  exact (zk_C_fillBest_19 hW) 4096 _ _ _ _ h2
def zr_C_lowest (g : Nat) (r k i : Int) : Prop := False
theorem zk_C_lowest_5 {W : Nat → Int → Int → Int → Prop} {S0 : Sg} (hW : ∀ g r k i, zr_C_lowest g r k i → W g r k i) : ∀ (n : Nat) (x0 x2 x3 x5 : Int) (S : Sg), Fm W S0 S → Kf W S0 (zf_C_lowest_5 n x0 x2 x3 x5 S) := by
  intro n
  induction n with
  | zero => intro x0 x2 x3 x5 S h0; exact Kf.none
  | succ n ih =>
    intro x0 x2 x3 x5 S h0
    rw [zf_C_lowest_5]
    refine Kf.ite ?_ ?_
    · skip
      exact Kf.some h0
    · skip
      refine Kf.lt (fun v2 => ?_)
      refine Kf.lt (fun v3 => ?_)
      exact ih _ _ _ _ _ h0
theorem zk_C_lowest {W : Nat → Int → Int → Int → Prop} {S0 : Sg} (hW : ∀ g r k i, zr_C_lowest g r k i → W g r k i) : ∀ (x0 : Int) (x2 : Int) (S : Sg), Fm W S0 S → Kf W S0 (zf_C_lowest x0 x2 S) := by
  intro x0 x2 S h0
  unfold zf_C_lowest
  exact (zk_C_lowest_5 hW) 4096 _ _ _ _ _ h0
def zr_Jl_bitCount (g : Nat) (r k i : Int) : Prop := False
theorem zk_Jl_bitCount {W : Nat → Int → Int → Int → Prop} {S0 : Sg} (hW : ∀ g r k i, zr_Jl_bitCount g r k i → W g r k i) : ∀ (x0 : Int) (S : Sg), Fm W S0 S → Kf W S0 (zf_Jl_bitCount x0 S) := by
  intro x0 S h0
  unfold zf_Jl_bitCount
  refine Kf.lt (fun v1 => ?_)
  refine Kf.lt (fun v2 => ?_)
  refine Kf.lt (fun v3 => ?_)
  refine Kf.lt (fun v4 => ?_)
  refine Kf.lt (fun v5 => ?_)
  refine Kf.lt (fun v6 => ?_)
  exact Kf.some h0
def zr_C_fillInTurn (g : Nat) (r k i : Int) : Prop := (g = 20 ∧ r = 0 ∧ k = 0)
theorem zk_C_fillInTurn_80 {W : Nat → Int → Int → Int → Prop} {S0 : Sg} (hW : ∀ g r k i, zr_C_fillInTurn g r k i → W g r k i) {q4 : Int → Int → Sg → Option (Int × Sg)} (hq4 : ∀ (x0 x1 : Int) (S : Sg), Fm W S0 S → Kf W S0 (q4 x0 x1 S)) : ∀ (x1 : Int) (x3 : Int) (S : Sg), Fm W S0 S → Kf W S0 (zf_C_fillInTurn_80 q4 x1 x3 S) := by
  intro x1 x3 S h0
  unfold zf_C_fillInTurn_80
  refine Kf.lt (fun v1 => ?_)
  exact hq4 _ _ _ h0
theorem zk_C_fillInTurn_4 {W : Nat → Int → Int → Int → Prop} {S0 : Sg} (hW : ∀ g r k i, zr_C_fillInTurn g r k i → W g r k i) : ∀ (n : Nat) (x1 x3 : Int) (S : Sg), Fm W S0 S → Kf W S0 (zf_C_fillInTurn_4 n x1 x3 S) := by
  intro n
  induction n with
  | zero => intro x1 x3 S h0; exact Kf.none
  | succ n ih =>
    intro x1 x3 S h0
    rw [zf_C_fillInTurn_4]
    refine Kf.ite ?_ ?_
    · skip
      exact Kf.some h0
    · skip
      refine Kf.ck ?_
      refine Kf.put h0 (hW _ _ _ _ ⟨rfl, rfl, rfl⟩) (fun S3 h1 => ?_)
      refine Kf.lt (fun v4 => ?_)
      refine Kf.ite ?_ ?_
      · skip
        exact (zk_C_fillInTurn_80 hW ih) _ _ _ h1
      · skip
        refine Kf.bd ((zk_Jl_bitCount (fun _ _ _ _ h => h.elim)) _ _ h1) (fun a6 S7 h3 => ?_)
        refine Kf.ite ?_ ?_
        · skip
          exact (zk_C_fillInTurn_80 hW ih) _ _ _ h3
        · skip
          refine Kf.bd ((zk_C_lowest (fun _ _ _ _ h => h.elim)) _ _ _ h3) (fun a9 S10 h4 => ?_)
          refine Kf.put h4 (hW _ _ _ _ ⟨rfl, rfl, rfl⟩) (fun S11 h5 => ?_)
          refine Kf.lt (fun v12 => ?_)
          exact (zk_C_fillInTurn_80 hW ih) _ _ _ h5
theorem zk_C_fillInTurn {W : Nat → Int → Int → Int → Prop} {S0 : Sg} (hW : ∀ g r k i, zr_C_fillInTurn g r k i → W g r k i) : ∀ (S : Sg), Fm W S0 S → Kf W S0 (zf_C_fillInTurn S) := by
  intro S h0
  unfold zf_C_fillInTurn
  exact (zk_C_fillInTurn_4 hW) 4096 _ _ _ h0
def zr_C_fill (r1 : Int) (g : Nat) (r k i : Int) : Prop := (g = 20 ∧ r = 0 ∧ k = 0) ∨ (g = 20 ∧ r = 0 ∧ k = 1) ∨ (g = 20 ∧ r = 0 ∧ k = 2) ∨ (g = 3 ∧ r = 0 ∧ k = 10 ∧ i = 5) ∨ (g = 3 ∧ r = 0 ∧ k = 11) ∨ (g = 3 ∧ r = 0 ∧ k = 12) ∨ (g = 3 ∧ r = 0 ∧ k = 13) ∨ (g = 3 ∧ r = 0 ∧ k = 14) ∨ (g = 3 ∧ r = 0 ∧ k = 7 ∧ i = 2) ∨ (g = 3 ∧ r = 0 ∧ k = 8) ∨ (g = 3 ∧ r = 0 ∧ k = 9) ∨ (g = 4 ∧ k = 0)
theorem zk_C_fill_105 {W : Nat → Int → Int → Int → Prop} {S0 : Sg} {r1 : Int} (hW : ∀ g r k i, zr_C_fill r1 g r k i → W g r k i) {q48 : Int → Sg → Option (Int × Sg)} (hq48 : ∀ (x0 : Int) (S : Sg), Fm W S0 S → Kf W S0 (q48 x0 S)) : ∀ (x5 : Int) (S : Sg), Fm W S0 S → Kf W S0 (zf_C_fill_105 r1 q48 x5 S) := by
  intro x5 S h0
  unfold zf_C_fill_105
  refine Kf.lt (fun v1 => ?_)
  exact hq48 _ _ h0
theorem zk_C_fill_48 {W : Nat → Int → Int → Int → Prop} {S0 : Sg} {r1 : Int} (hW : ∀ g r k i, zr_C_fill r1 g r k i → W g r k i) : ∀ (n : Nat) (x5 : Int) (S : Sg), Fm W S0 S → Kf W S0 (zf_C_fill_48 r1 n x5 S) := by
  intro n
  induction n with
  | zero => intro x5 S h0; exact Kf.none
  | succ n ih =>
    intro x5 S h0
    rw [zf_C_fill_48]
    refine Kf.ite ?_ ?_
    · skip
      exact Kf.some h0
    · skip
      refine Kf.ck ?_
      refine Kf.put h0 (hW _ _ _ _ (Or.inr (Or.inr (Or.inl ⟨rfl, rfl, rfl⟩)))) (fun S3 h1 => ?_)
      refine Kf.put h1 (hW _ _ _ _ (Or.inr (Or.inr (Or.inr (Or.inr (Or.inr (Or.inl ⟨rfl, rfl, rfl⟩))))))) (fun S4 h2 => ?_)
      refine Kf.ite ?_ ?_
      · skip
        exact (zk_C_fill_105 (r1 := r1) hW ih) _ _ h2
      · skip
        refine Kf.put h2 (hW _ _ _ _ (Or.inr (Or.inr (Or.inr (Or.inl ⟨rfl, rfl, rfl, rfl⟩))))) (fun S6 h3 => ?_)
        exact (zk_C_fill_105 (r1 := r1) hW ih) _ _ h3
theorem zk_C_fill_40 {W : Nat → Int → Int → Int → Prop} {S0 : Sg} {r1 : Int} (hW : ∀ g r k i, zr_C_fill r1 g r k i → W g r k i) : ∀ (S : Sg), Fm W S0 S → Kf W S0 (zf_C_fill_40 r1 S) := by
  intro S h0
  unfold zf_C_fill_40
  refine Kf.put h0 (hW _ _ _ _ (Or.inr (Or.inr (Or.inr (Or.inl ⟨rfl, rfl, rfl, rfl⟩))))) (fun S1 h1 => ?_)
  exact (zk_C_fill_48 (r1 := r1) hW) 4096 _ _ h1
theorem zk_C_fill {W : Nat → Int → Int → Int → Prop} {S0 : Sg} {r1 : Int} (hW : ∀ g r k i, zr_C_fill r1 g r k i → W g r k i) : ∀ (S : Sg), Fm W S0 S → Kf W S0 (zf_C_fill r1 S) := by
  intro S h0
  unfold zf_C_fill
  refine Kf.bd ((zk_C_ask (r1 := (r1)) (fun g r k i h => hW g r k i (Or.elim h (fun h => (Or.inr (Or.inl ⟨h.1, h.2.1, h.2.2⟩))) (fun h => (Or.elim h (fun h => (Or.inr (Or.inr (Or.inr (Or.inr (Or.inl ⟨h.1, h.2.1, h.2.2⟩)))))) (fun h => (Or.elim h (fun h => (Or.inr (Or.inr (Or.inr (Or.inr (Or.inr (Or.inr (Or.inr (Or.inr (Or.inl ⟨h.1, h.2.1, h.2.2.1, h.2.2.2⟩)))))))))) (fun h => (Or.elim h (fun h => (Or.inr (Or.inr (Or.inr (Or.inr (Or.inr (Or.inr (Or.inr (Or.inr (Or.inr (Or.inl ⟨h.1, h.2.1, h.2.2⟩))))))))))) (fun h => (Or.inr (Or.inr (Or.inr (Or.inr (Or.inr (Or.inr (Or.inr (Or.inr (Or.inr (Or.inr (Or.inl ⟨h.1, h.2.1, h.2.2⟩))))))))))))))))))))) _ h0) (fun a1 S2 h1 => ?_)
  refine Kf.bd ((zk_C_asBefore (fun _ _ _ _ h => h.elim)) _ h1) (fun a3 S4 h2 => ?_)
  refine Kf.ite ?_ ?_
  · skip
    refine Kf.bd ((zk_Jl_bitCount (fun _ _ _ _ h => h.elim)) _ _ h2) (fun a6 S7 h3 => ?_)
    refine Kf.ite ?_ ?_
    · skip
      refine Kf.bd ((zk_C_fillInTurn (fun g r k i h => hW g r k i (Or.inl ⟨h.1, h.2.1, h.2.2⟩))) _ h3) (fun a9 S10 h4 => ?_)
      exact (zk_C_fill_40 (r1 := r1) hW) _ h4
    · skip
      refine Kf.bd ((zk_C_fillBest (fun g r k i h => hW g r k i (Or.elim h (fun h => (Or.inl ⟨h.1, h.2.1, h.2.2⟩)) (fun h => (Or.elim h (fun h => (Or.inr (Or.inr (Or.inr (Or.inr (Or.inr (Or.inr (Or.inl ⟨h.1, h.2.1, h.2.2⟩)))))))) (fun h => (Or.elim h (fun h => (Or.inr (Or.inr (Or.inr (Or.inr (Or.inr (Or.inr (Or.inr (Or.inl ⟨h.1, h.2.1, h.2.2⟩))))))))) (fun h => (Or.inr (Or.inr (Or.inr (Or.inr (Or.inr (Or.inr (Or.inr (Or.inr (Or.inr (Or.inr (Or.inr ⟨h.1, h.2⟩))))))))))))))))))) _ _ h3) (fun a11 S12 h5 => ?_)
      exact (zk_C_fill_40 (r1 := r1) hW) _ h5
  · skip
    exact Kf.some h2
def zr_O_hands (g : Nat) (r k i : Int) : Prop := (g = 20 ∧ r = 0 ∧ k = 0) ∨ (g = 20 ∧ r = 0 ∧ k = 1) ∨ (g = 20 ∧ r = 0 ∧ k = 2) ∨ (g = 3 ∧ r = 0 ∧ k = 10 ∧ i = 5) ∨ (g = 3 ∧ r = 0 ∧ k = 11) ∨ (g = 3 ∧ r = 0 ∧ k = 12) ∨ (g = 3 ∧ r = 0 ∧ k = 13) ∨ (g = 3 ∧ r = 0 ∧ k = 14) ∨ (g = 3 ∧ r = 0 ∧ k = 7 ∧ i = 2) ∨ (g = 3 ∧ r = 0 ∧ k = 8) ∨ (g = 3 ∧ r = 0 ∧ k = 9) ∨ (g = 4 ∧ k = 0)
theorem zk_O_hands {W : Nat → Int → Int → Int → Prop} {S0 : Sg} (hW : ∀ g r k i, zr_O_hands g r k i → W g r k i) : ∀ (x1 : Int) (x2 : Int) (S : Sg), Fm W S0 S → Kf W S0 (zf_O_hands x1 x2 S) := by
  intro x1 x2 S h0
  unfold zf_O_hands
  refine Kf.bd ((zk_Q_has (r0 := (0)) (fun _ _ _ _ h => h.elim)) _ _ h0) (fun a1 S2 h1 => ?_)
  refine Kf.ite ?_ ?_
  · skip
    exact Kf.some h1
  · skip
    refine Kf.bd ((zk_C_fill (r1 := (0)) (fun g r k i h => hW g r k i (Or.elim h (fun h => (Or.inl ⟨h.1, h.2.1, h.2.2⟩)) (fun h => (Or.elim h (fun h => (Or.inr (Or.inl ⟨h.1, h.2.1, h.2.2⟩))) (fun h => (Or.elim h (fun h => (Or.inr (Or.inr (Or.inl ⟨h.1, h.2.1, h.2.2⟩)))) (fun h => (Or.elim h (fun h => (Or.inr (Or.inr (Or.inr (Or.inl ⟨h.1, h.2.1, h.2.2.1, h.2.2.2⟩))))) (fun h => (Or.elim h (fun h => (Or.inr (Or.inr (Or.inr (Or.inr (Or.inl ⟨h.1, h.2.1, h.2.2⟩)))))) (fun h => (Or.elim h (fun h => (Or.inr (Or.inr (Or.inr (Or.inr (Or.inr (Or.inl ⟨h.1, h.2.1, h.2.2⟩))))))) (fun h => (Or.elim h (fun h => (Or.inr (Or.inr (Or.inr (Or.inr (Or.inr (Or.inr (Or.inl ⟨h.1, h.2.1, h.2.2⟩)))))))) (fun h => (Or.elim h (fun h => (Or.inr (Or.inr (Or.inr (Or.inr (Or.inr (Or.inr (Or.inr (Or.inl ⟨h.1, h.2.1, h.2.2⟩))))))))) (fun h => (Or.elim h (fun h => (Or.inr (Or.inr (Or.inr (Or.inr (Or.inr (Or.inr (Or.inr (Or.inr (Or.inl ⟨h.1, h.2.1, h.2.2.1, h.2.2.2⟩)))))))))) (fun h => (Or.elim h (fun h => (Or.inr (Or.inr (Or.inr (Or.inr (Or.inr (Or.inr (Or.inr (Or.inr (Or.inr (Or.inl ⟨h.1, h.2.1, h.2.2⟩))))))))))) (fun h => (Or.elim h (fun h => (Or.inr (Or.inr (Or.inr (Or.inr (Or.inr (Or.inr (Or.inr (Or.inr (Or.inr (Or.inr (Or.inl ⟨h.1, h.2.1, h.2.2⟩)))))))))))) (fun h => (Or.inr (Or.inr (Or.inr (Or.inr (Or.inr (Or.inr (Or.inr (Or.inr (Or.inr (Or.inr (Or.inr ⟨h.1, h.2⟩))))))))))))))))))))))))))))))))))) _ h1) (fun a4 S5 h2 => ?_)
    refine Kf.ck ?_
    refine Kf.lt (fun v7 => ?_)
    refine Kf.ite ?_ ?_
    · skip
      exact Kf.some h2
    · skip
      exact Kf.some h2
def zr_O_filled (g : Nat) (r k i : Int) : Prop := (g = 20 ∧ r = 0 ∧ k = 0) ∨ (g = 20 ∧ r = 0 ∧ k = 1) ∨ (g = 20 ∧ r = 0 ∧ k = 2) ∨ (g = 3 ∧ r = 0 ∧ k = 10 ∧ i = 5) ∨ (g = 3 ∧ r = 0 ∧ k = 11) ∨ (g = 3 ∧ r = 0 ∧ k = 12) ∨ (g = 3 ∧ r = 0 ∧ k = 13) ∨ (g = 3 ∧ r = 0 ∧ k = 14) ∨ (g = 3 ∧ r = 0 ∧ k = 7 ∧ i = 2) ∨ (g = 3 ∧ r = 0 ∧ k = 8) ∨ (g = 3 ∧ r = 0 ∧ k = 9) ∨ (g = 4 ∧ k = 0)
theorem zk_O_filled {W : Nat → Int → Int → Int → Prop} {S0 : Sg} (hW : ∀ g r k i, zr_O_filled g r k i → W g r k i) : ∀ (S : Sg), Fm W S0 S → Kf W S0 (zf_O_filled S) := by
  intro S h0
  unfold zf_O_filled
  refine Kf.bd ((zk_C_fill (r1 := (0)) (fun g r k i h => hW g r k i (Or.elim h (fun h => (Or.inl ⟨h.1, h.2.1, h.2.2⟩)) (fun h => (Or.elim h (fun h => (Or.inr (Or.inl ⟨h.1, h.2.1, h.2.2⟩))) (fun h => (Or.elim h (fun h => (Or.inr (Or.inr (Or.inl ⟨h.1, h.2.1, h.2.2⟩)))) (fun h => (Or.elim h (fun h => (Or.inr (Or.inr (Or.inr (Or.inl ⟨h.1, h.2.1, h.2.2.1, h.2.2.2⟩))))) (fun h => (Or.elim h (fun h => (Or.inr (Or.inr (Or.inr (Or.inr (Or.inl ⟨h.1, h.2.1, h.2.2⟩)))))) (fun h => (Or.elim h (fun h => (Or.inr (Or.inr (Or.inr (Or.inr (Or.inr (Or.inl ⟨h.1, h.2.1, h.2.2⟩))))))) (fun h => (Or.elim h (fun h => (Or.inr (Or.inr (Or.inr (Or.inr (Or.inr (Or.inr (Or.inl ⟨h.1, h.2.1, h.2.2⟩)))))))) (fun h => (Or.elim h (fun h => (Or.inr (Or.inr (Or.inr (Or.inr (Or.inr (Or.inr (Or.inr (Or.inl ⟨h.1, h.2.1, h.2.2⟩))))))))) (fun h => (Or.elim h (fun h => (Or.inr (Or.inr (Or.inr (Or.inr (Or.inr (Or.inr (Or.inr (Or.inr (Or.inl ⟨h.1, h.2.1, h.2.2.1, h.2.2.2⟩)))))))))) (fun h => (Or.elim h (fun h => (Or.inr (Or.inr (Or.inr (Or.inr (Or.inr (Or.inr (Or.inr (Or.inr (Or.inr (Or.inl ⟨h.1, h.2.1, h.2.2⟩))))))))))) (fun h => (Or.elim h (fun h => (Or.inr (Or.inr (Or.inr (Or.inr (Or.inr (Or.inr (Or.inr (Or.inr (Or.inr (Or.inr (Or.inl ⟨h.1, h.2.1, h.2.2⟩)))))))))))) (fun h => (Or.inr (Or.inr (Or.inr (Or.inr (Or.inr (Or.inr (Or.inr (Or.inr (Or.inr (Or.inr (Or.inr ⟨h.1, h.2⟩))))))))))))))))))))))))))))))))))) _ h0) (fun a1 S2 h1 => ?_)
  exact Kf.some h1
def zr_O_isGood (g : Nat) (r k i : Int) : Prop := False
theorem zk_O_isGood {W : Nat → Int → Int → Int → Prop} {S0 : Sg} (hW : ∀ g r k i, zr_O_isGood g r k i → W g r k i) : ∀ (x0 : Int) (S : Sg), Fm W S0 S → Kf W S0 (zf_O_isGood x0 S) := by
  intro x0 S h0
  unfold zf_O_isGood
  refine Kf.ite ?_ ?_
  · skip
    exact Kf.some h0
  · skip
    refine Kf.ite ?_ ?_
    · skip
      exact Kf.some h0
    · skip
      exact Kf.some h0
def zr_O_store (g : Nat) (r k i : Int) : Prop := (g = 0 ∧ r = 0 ∧ k = 32)
theorem zk_O_store {W : Nat → Int → Int → Int → Prop} {S0 : Sg} (hW : ∀ g r k i, zr_O_store g r k i → W g r k i) : ∀ (x1 : Int) (x2 : Int) (S : Sg), Fm W S0 S → Kf W S0 (zf_O_store x1 x2 S) := by
  intro x1 x2 S h0
  unfold zf_O_store
  refine Kf.bd ((zk_O_isGood (fun _ _ _ _ h => h.elim)) _ _ h0) (fun a1 S2 h1 => ?_)
  refine Kf.ite ?_ ?_
  · skip
    exact Kf.some h1
  · skip
    refine Kf.ite ?_ ?_
    · skip
      exact Kf.some h1
    · skip
      refine Kf.ite ?_ ?_
      · skip
        refine Kf.ck ?_
        refine Kf.ite ?_ ?_
        · skip
          refine Kf.put h1 (hW _ _ _ _ ⟨rfl, rfl, rfl⟩) (fun S8 h2 => ?_)
          exact Kf.some h2
        · skip
          exact Kf.some h1
      · skip
        exact Kf.some h1
def zr_O_rank (g : Nat) (r k i : Int) : Prop := (g = 0 ∧ r = 0 ∧ k = 33) ∨ (g = 0 ∧ r = 0 ∧ k = 34)
theorem zk_O_rank_53 {W : Nat → Int → Int → Int → Prop} {S0 : Sg} (hW : ∀ g r k i, zr_O_rank g r k i → W g r k i) : ∀ (x1 : Int) (x2 : Int) (x3 : Int) (S : Sg), Fm W S0 S → Kf W S0 (zf_O_rank_53 x1 x2 x3 S) := by
  intro x1 x2 x3 S h0
  unfold zf_O_rank_53
  refine Kf.ite ?_ ?_
  · skip
    refine Kf.ite ?_ ?_
    · skip
      exact Kf.some h0
    · skip
      refine Kf.ite ?_ ?_
      · skip
        exact Kf.some h0
      · skip
        refine Kf.ck ?_
        refine Kf.lt (fun v5 => ?_)
        refine Kf.put h0 (hW _ _ _ _ (Or.inr ⟨rfl, rfl, rfl⟩)) (fun S6 h2 => ?_)
        exact Kf.some h2
  · skip
    exact Kf.some h0
theorem zk_O_rank {W : Nat → Int → Int → Int → Prop} {S0 : Sg} (hW : ∀ g r k i, zr_O_rank g r k i → W g r k i) : ∀ (x1 : Int) (x2 : Int) (x3 : Int) (S : Sg), Fm W S0 S → Kf W S0 (zf_O_rank x1 x2 x3 S) := by
  intro x1 x2 x3 S h0
  unfold zf_O_rank
  refine Kf.bd ((zk_O_isGood (fun _ _ _ _ h => h.elim)) _ _ h0) (fun a1 S2 h1 => ?_)
  refine Kf.ite ?_ ?_
  · skip
    exact Kf.some h1
  · skip
    refine Kf.ite ?_ ?_
    · skip
      refine Kf.ite ?_ ?_
      · skip
        refine Kf.ite ?_ ?_
        · skip
          exact (zk_O_rank_53 hW) _ _ _ _ h1
        · skip
          refine Kf.ck ?_
          refine Kf.lt (fun v8 => ?_)
          refine Kf.put h1 (hW _ _ _ _ (Or.inl ⟨rfl, rfl, rfl⟩)) (fun S9 h3 => ?_)
          exact Kf.some h3
      · skip
        exact (zk_O_rank_53 hW) _ _ _ _ h1
    · skip
      exact Kf.some h1
def zr_T_addOrder (r0 : Int) (g : Nat) (r k i : Int) : Prop := (g = 0 ∧ r = r0 ∧ k = 31 ∧ i = 3) ∨ (g = 0 ∧ r = r0 ∧ k = 35) ∨ (g = 0 ∧ r = r0 ∧ k = 36)
theorem zk_T_addOrder {W : Nat → Int → Int → Int → Prop} {S0 : Sg} {r0 : Int} (hW : ∀ g r k i, zr_T_addOrder r0 g r k i → W g r k i) : ∀ (x1 : Int) (x2 : Int) (S : Sg), Fm W S0 S → Kf W S0 (zf_T_addOrder r0 x1 x2 S) := by
  intro x1 x2 S h0
  unfold zf_T_addOrder
  refine Kf.ite ?_ ?_
  · skip
    refine Kf.lt (fun v2 => ?_)
    refine Kf.ck ?_
    refine Kf.put h0 (hW _ _ _ _ (Or.inr (Or.inl ⟨rfl, rfl, rfl⟩))) (fun S4 h2 => ?_)
    refine Kf.put h2 (hW _ _ _ _ (Or.inr (Or.inr ⟨rfl, rfl, rfl⟩))) (fun S5 h3 => ?_)
    refine Kf.put h3 (hW _ _ _ _ (Or.inl ⟨rfl, rfl, rfl, rfl⟩)) (fun S6 h4 => ?_)
    exact Kf.some h4
  · skip
    exact Kf.some h0
def zr_O_order (g : Nat) (r k i : Int) : Prop := (g = 0 ∧ r = 0 ∧ k = 31 ∧ i = 3) ∨ (g = 0 ∧ r = 0 ∧ k = 35) ∨ (g = 0 ∧ r = 0 ∧ k = 36)
theorem zk_O_order {W : Nat → Int → Int → Int → Prop} {S0 : Sg} (hW : ∀ g r k i, zr_O_order g r k i → W g r k i) : ∀ (x1 : Int) (x2 : Int) (S : Sg), Fm W S0 S → Kf W S0 (zf_O_order x1 x2 S) := by
  intro x1 x2 S h0
  unfold zf_O_order
  refine Kf.bd ((zk_O_isGood (fun _ _ _ _ h => h.elim)) _ _ h0) (fun a1 S2 h1 => ?_)
  refine Kf.ite ?_ ?_
  · skip
    exact Kf.some h1
  · skip
    refine Kf.ite ?_ ?_
    · skip
      exact Kf.some h1
    · skip
      refine Kf.ite ?_ ?_
      · skip
        refine Kf.bd ((zk_T_addOrder (r0 := (0)) (fun g r k i h => hW g r k i (Or.elim h (fun h => (Or.inl ⟨h.1, h.2.1, h.2.2.1, h.2.2.2⟩)) (fun h => (Or.elim h (fun h => (Or.inr (Or.inl ⟨h.1, h.2.1, h.2.2⟩))) (fun h => (Or.inr (Or.inr ⟨h.1, h.2.1, h.2.2⟩)))))))) _ _ _ h1) (fun a6 S7 h2 => ?_)
        exact Kf.some h2
      · skip
        exact Kf.some h1
def zr_O_due (g : Nat) (r k i : Int) : Prop := False
theorem zk_O_due {W : Nat → Int → Int → Int → Prop} {S0 : Sg} (hW : ∀ g r k i, zr_O_due g r k i → W g r k i) : ∀ (x1 : Int) (S : Sg), Fm W S0 S → Kf W S0 (zf_O_due x1 S) := by
  intro x1 S h0
  unfold zf_O_due
  refine Kf.ite ?_ ?_
  · skip
    exact Kf.some h0
  · skip
    refine Kf.ite ?_ ?_
    · skip
      refine Kf.ck ?_
      exact Kf.some h0
    · skip
      exact Kf.some h0
def zr_O_set (g : Nat) (r k i : Int) : Prop := (g = 0 ∧ r = 0 ∧ k = 1)
theorem zk_O_set {W : Nat → Int → Int → Int → Prop} {S0 : Sg} (hW : ∀ g r k i, zr_O_set g r k i → W g r k i) : ∀ (x1 : Int) (x2 : Int) (S : Sg), Fm W S0 S → Kf W S0 (zf_O_set x1 x2 S) := by
  intro x1 x2 S h0
  unfold zf_O_set
  refine Kf.ite ?_ ?_
  · skip
    exact Kf.some h0
  · skip
    refine Kf.ite ?_ ?_
    · skip
      exact Kf.some h0
    · skip
      refine Kf.ck ?_
      refine Kf.ite ?_ ?_
      · skip
        exact Kf.some h0
      · skip
        refine Kf.ite ?_ ?_
        · skip
          refine Kf.lt (fun v8 => ?_)
          refine Kf.put h0 (hW _ _ _ _ ⟨rfl, rfl, rfl⟩) (fun S9 h2 => ?_)
          exact Kf.some h2
        · skip
          exact Kf.some h0
def zr_O_isPermutation (g : Nat) (r k i : Int) : Prop := False
theorem zk_O_isPermutation {W : Nat → Int → Int → Int → Prop} {S0 : Sg} (hW : ∀ g r k i, zr_O_isPermutation g r k i → W g r k i) : ∀ (x0 : Int) (x1 : Int) (x2 : Int) (S : Sg), Fm W S0 S → Kf W S0 (zf_O_isPermutation x0 x1 x2 S) := by
  intro x0 x1 x2 S h0
  unfold zf_O_isPermutation
  refine Kf.ite ?_ ?_
  · skip
    exact Kf.some h0
  · skip
    exact Kf.some h0
def zr_O_pays (g : Nat) (r k i : Int) : Prop := (g = 0 ∧ r = 0 ∧ k = 0 ∧ i = 5)
theorem zk_O_pays {W : Nat → Int → Int → Int → Prop} {S0 : Sg} (hW : ∀ g r k i, zr_O_pays g r k i → W g r k i) : ∀ (x1 : Int) (S : Sg), Fm W S0 S → Kf W S0 (zf_O_pays x1 S) := by
  intro x1 S h0
  unfold zf_O_pays
  refine Kf.ite ?_ ?_
  · skip
    exact Kf.some h0
  · skip
    refine Kf.ite ?_ ?_
    · skip
      exact Kf.some h0
    · skip
      refine Kf.bd ((zk_O_isPermutation (fun _ _ _ _ h => h.elim)) _ _ _ _ h0) (fun a3 S4 h1 => ?_)
      refine Kf.ite ?_ ?_
      · skip
        exact Kf.some h1
      · skip
        refine Kf.lt (fun v6 => ?_)
        refine Kf.put h1 (hW _ _ _ _ ⟨rfl, rfl, rfl, rfl⟩) (fun S7 h3 => ?_)
        refine Kf.ite ?_ ?_
        · skip
          exact Kf.some h3
        · skip
          exact Kf.some h3
def zr_O_earn (g : Nat) (r k i : Int) : Prop := (g = 0 ∧ r = 0 ∧ k = 0 ∧ i = 1)
theorem zk_O_earn {W : Nat → Int → Int → Int → Prop} {S0 : Sg} (hW : ∀ g r k i, zr_O_earn g r k i → W g r k i) : ∀ (x1 : Int) (S : Sg), Fm W S0 S → Kf W S0 (zf_O_earn x1 S) := by
  intro x1 S h0
  unfold zf_O_earn
  refine Kf.ite ?_ ?_
  · skip
    exact Kf.some h0
  · skip
    refine Kf.ite ?_ ?_
    · skip
      refine Kf.ite ?_ ?_
      · skip
        refine Kf.put h0 (hW _ _ _ _ ⟨rfl, rfl, rfl, rfl⟩) (fun S4 h1 => ?_)
        exact Kf.some h1
      · skip
        exact Kf.some h0
    · skip
      exact Kf.some h0
def zr_Y_take (k0 : Int) (r0 : Int) (g3 : Nat) (k3 : Int) (r3 : Int) (n3 : Nat) (g : Nat) (r k i : Int) : Prop := (g = 13 ∧ r = r0 ∧ k = k0) ∨ (g = 14 ∧ r = r0 ∧ k = k0)
theorem zk_Y_take {W : Nat → Int → Int → Int → Prop} {S0 : Sg} {k0 : Int} {r0 : Int} {g3 : Nat} {k3 : Int} {r3 : Int} {n3 : Nat} (hW : ∀ g r k i, zr_Y_take k0 r0 g3 k3 r3 n3 g r k i → W g r k i) : ∀ (x1 : Int) (x2 : Int) (S : Sg), Fm W S0 S → Kf W S0 (zf_Y_take r0 k0 g3 r3 k3 n3 x1 x2 S) := by
  intro x1 x2 S h0
  unfold zf_Y_take
  refine Kf.put h0 (hW _ _ _ _ (Or.inl ⟨rfl, rfl, rfl⟩)) (fun S1 h1 => ?_)
  refine Kf.put h1 (hW _ _ _ _ (Or.inl ⟨rfl, rfl, rfl⟩)) (fun S2 h2 => ?_)
  refine Kf.ck ?_
  refine Kf.cp h2 (fun j => hW _ _ _ j (Or.inr ⟨rfl, rfl, rfl⟩)) (fun S4 h3 => ?_)
  exact Kf.some h3
def zr_O_weather (g : Nat) (r k i : Int) : Prop := (g = 13 ∧ r = 0 ∧ k = 0) ∨ (g = 13 ∧ r = 0 ∧ k = 1) ∨ (g = 14 ∧ r = 0 ∧ k = 0) ∨ (g = 14 ∧ r = 0 ∧ k = 1)
theorem zk_O_weather {W : Nat → Int → Int → Int → Prop} {S0 : Sg} (hW : ∀ g r k i, zr_O_weather g r k i → W g r k i) : ∀ (x1 : Int) (x2 : Int) (S : Sg), Fm W S0 S → Kf W S0 (zf_O_weather x1 x2 S) := by
  intro x1 x2 S h0
  unfold zf_O_weather
  refine Kf.bd ((zk_O_isShelf (fun _ _ _ _ h => h.elim)) _ _ h0) (fun a1 S2 h1 => ?_)
  refine Kf.ite ?_ ?_
  · skip
    exact Kf.some h1
  · skip
    refine Kf.ck ?_
    refine Kf.ite ?_ ?_
    · skip
      exact Kf.some h1
    · skip
      refine Kf.ite ?_ ?_
      · skip
        refine Kf.ite ?_ ?_
        · skip
          refine Kf.bd ((zk_Y_take (r0 := (0)) (k0 := (0)) (g3 := 2) (r3 := (x1)) (k3 := (1)) (n3 := 120) (fun g r k i h => hW g r k i (Or.elim h (fun h => (Or.inl ⟨h.1, h.2.1, h.2.2⟩)) (fun h => (Or.inr (Or.inr (Or.inl ⟨h.1, h.2.1, h.2.2⟩))))))) _ _ _ h1) (fun a8 S9 h2 => ?_)
          exact Kf.some h2
        · skip
          refine Kf.bd ((zk_Y_take (r0 := (0)) (k0 := (1)) (g3 := 2) (r3 := (x1)) (k3 := (1)) (n3 := 120) (fun g r k i h => hW g r k i (Or.elim h (fun h => (Or.inr (Or.inl ⟨h.1, h.2.1, h.2.2⟩))) (fun h => (Or.inr (Or.inr (Or.inr ⟨h.1, h.2.1, h.2.2⟩))))))) _ _ _ h1) (fun a10 S11 h3 => ?_)
          exact Kf.some h3
      · skip
        exact Kf.some h1
def zr_Y_isMissing (k0 : Int) (r0 : Int) (g : Nat) (r k i : Int) : Prop := False
theorem zk_Y_isMissing_28 {W : Nat → Int → Int → Int → Prop} {S0 : Sg} {k0 : Int} {r0 : Int} (hW : ∀ g r k i, zr_Y_isMissing k0 r0 g r k i → W g r k i) : ∀ (x1 : Int) (xt0 : Int) (S : Sg), Fm W S0 S → Kf W S0 (zf_Y_isMissing_28 r0 k0 x1 xt0 S) := by
  intro x1 xt0 S h0
  unfold zf_Y_isMissing_28
  refine Kf.ck ?_
  refine Kf.ite ?_ ?_
  · skip
    exact Kf.some h0
  · skip
    exact Kf.some h0
theorem zk_Y_isMissing {W : Nat → Int → Int → Int → Prop} {S0 : Sg} {k0 : Int} {r0 : Int} (hW : ∀ g r k i, zr_Y_isMissing k0 r0 g r k i → W g r k i) : ∀ (x1 : Int) (S : Sg), Fm W S0 S → Kf W S0 (zf_Y_isMissing r0 k0 x1 S) := by
  intro x1 S h0
  unfold zf_Y_isMissing
  refine Kf.ite ?_ ?_
  · skip
    exact (zk_Y_isMissing_28 (r0 := r0) (k0 := k0) hW) _ _ _ h0
  · skip
    refine Kf.ite ?_ ?_
    · skip
      exact (zk_Y_isMissing_28 (r0 := r0) (k0 := k0) hW) _ _ _ h0
    · skip
      exact (zk_Y_isMissing_28 (r0 := r0) (k0 := k0) hW) _ _ _ h0
