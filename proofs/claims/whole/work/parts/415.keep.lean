/-! ===== what a function may change, 4 ===== -/
def zr_M_here (g : Nat) (r k i : Int) : Prop := False
theorem zk_M_here {W : Nat → Int → Int → Int → Prop} {S0 : Sg} (hW : ∀ g r k i, zr_M_here g r k i → W g r k i) : ∀ (S : Sg), Fm W S0 S → Kf W S0 (zf_M_here S) := by
  intro S h0
  unfold zf_M_here
  refine Kf.ite ?_ ?_
  · skip
    exact Kf.some h0
  · skip
    refine Kf.ck ?_
    refine Kf.ck ?_
    exact Kf.some h0
def zr_M_digitHere (g : Nat) (r k i : Int) : Prop := False
theorem zk_M_digitHere {W : Nat → Int → Int → Int → Prop} {S0 : Sg} (hW : ∀ g r k i, zr_M_digitHere g r k i → W g r k i) : ∀ (S : Sg), Fm W S0 S → Kf W S0 (zf_M_digitHere S) := by
  intro S h0
  unfold zf_M_digitHere
  refine Kf.bd ((zk_M_here (fun _ _ _ _ h => h.elim)) _ h0) (fun a1 S2 h1 => ?_)
  refine Kf.ite ?_ ?_
  · skip
    exact Kf.some h1
  · skip
    refine Kf.bd ((zk_M_here (fun _ _ _ _ h => h.elim)) _ h1) (fun a4 S5 h2 => ?_)
    refine Kf.ite ?_ ?_
    · skip
      exact Kf.some h2
    · skip
      exact Kf.some h2
def zr_M_wrong (g : Nat) (r k i : Int) : Prop := (g = 9 ∧ r = 0 ∧ k = 0 ∧ i = 14)
theorem zk_M_wrong {W : Nat → Int → Int → Int → Prop} {S0 : Sg} (hW : ∀ g r k i, zr_M_wrong g r k i → W g r k i) : ∀ (S : Sg), Fm W S0 S → Kf W S0 (zf_M_wrong S) := by
  intro S h0
  unfold zf_M_wrong
  refine Kf.put h0 (hW _ _ _ _ ⟨rfl, rfl, rfl, rfl⟩) (fun S1 h1 => ?_)
  exact Kf.some h1
def zr_M_atom (g : Nat) (r k i : Int) : Prop := (g = 9 ∧ r = 0 ∧ k = 0 ∧ i = 12) ∨ (g = 9 ∧ r = 0 ∧ k = 0 ∧ i = 14)
theorem zk_M_atom_115 {W : Nat → Int → Int → Int → Prop} {S0 : Sg} (hW : ∀ g r k i, zr_M_atom g r k i → W g r k i) : ∀ (S : Sg), Fm W S0 S → Kf W S0 (zf_M_atom_115 S) := by
  intro S h0
  unfold zf_M_atom_115
  refine Kf.put h0 (hW _ _ _ _ (Or.inl ⟨rfl, rfl, rfl, rfl⟩)) (fun S1 h1 => ?_)
  exact Kf.some h1
theorem zk_M_atom_45 {W : Nat → Int → Int → Int → Prop} {S0 : Sg} (hW : ∀ g r k i, zr_M_atom g r k i → W g r k i) : ∀ (S : Sg), Fm W S0 S → Kf W S0 (zf_M_atom_45 S) := by
  intro S h0
  unfold zf_M_atom_45
  refine Kf.bd ((zk_M_wrong (fun g r k i h => hW g r k i (Or.inr ⟨h.1, h.2.1, h.2.2.1, h.2.2.2⟩))) _ h0) (fun a1 S2 h1 => ?_)
  refine Kf.ck ?_
  exact Kf.some h1
theorem zk_M_atom_50 {W : Nat → Int → Int → Int → Prop} {S0 : Sg} (hW : ∀ g r k i, zr_M_atom g r k i → W g r k i) {q24 : Int → Int → Sg → Option (Int × Sg)} (hq24 : ∀ (x0 x1 : Int) (S : Sg), Fm W S0 S → Kf W S0 (q24 x0 x1 S)) : ∀ (x1 : Int) (x2 : Int) (S : Sg), Fm W S0 S → Kf W S0 (zf_M_atom_50 q24 x1 x2 S) := by
  intro x1 x2 S h0
  unfold zf_M_atom_50
  refine Kf.lt (fun v1 => ?_)
  refine Kf.put h0 (hW _ _ _ _ (Or.inl ⟨rfl, rfl, rfl, rfl⟩)) (fun S2 h2 => ?_)
  exact hq24 _ _ _ h2
theorem zk_M_atom_24 {W : Nat → Int → Int → Int → Prop} {S0 : Sg} (hW : ∀ g r k i, zr_M_atom g r k i → W g r k i) : ∀ (n : Nat) (x1 x2 : Int) (S : Sg), Fm W S0 S → Kf W S0 (zf_M_atom_24 n x1 x2 S) := by
  intro n
  induction n with
  | zero => intro x1 x2 S h0; exact Kf.none
  | succ n ih =>
    intro x1 x2 S h0
    rw [zf_M_atom_24]
    refine Kf.bd ((zk_M_digitHere (fun _ _ _ _ h => h.elim)) _ h0) (fun a1 S2 h1 => ?_)
    refine Kf.ite ?_ ?_
    · skip
      exact Kf.some h1
    · skip
      refine Kf.ite ?_ ?_
      · skip
        exact (zk_M_atom_45 hW) _ h1
      · skip
        refine Kf.ite ?_ ?_
        · skip
          exact (zk_M_atom_50 hW ih) _ _ _ h1
        · skip
          refine Kf.ite ?_ ?_
          · skip
            exact (zk_M_atom_45 hW) _ h1
          · skip
            exact (zk_M_atom_50 hW ih) _ _ _ h1
theorem zk_M_atom_21 {W : Nat → Int → Int → Int → Prop} {S0 : Sg} (hW : ∀ g r k i, zr_M_atom g r k i → W g r k i) : ∀ (xt0 : Int) (S : Sg), Fm W S0 S → Kf W S0 (zf_M_atom_21 xt0 S) := by
  intro xt0 S h0
  unfold zf_M_atom_21
  exact (zk_M_atom_24 hW) 4096 _ _ _ h0
theorem zk_M_atom {W : Nat → Int → Int → Int → Prop} {S0 : Sg} (hW : ∀ g r k i, zr_M_atom g r k i → W g r k i) : ∀ (S : Sg), Fm W S0 S → Kf W S0 (zf_M_atom S) := by
  intro S h0
  unfold zf_M_atom
  refine Kf.bd ((zk_M_digitHere (fun _ _ _ _ h => h.elim)) _ h0) (fun a1 S2 h1 => ?_)
  refine Kf.ite ?_ ?_
  · skip
    refine Kf.bd ((zk_M_here (fun _ _ _ _ h => h.elim)) _ h1) (fun a4 S5 h2 => ?_)
    refine Kf.ite ?_ ?_
    · skip
      exact (zk_M_atom_115 hW) _ h2
    · skip
      refine Kf.ite ?_ ?_
      · skip
        exact (zk_M_atom_115 hW) _ h2
      · skip
        refine Kf.ite ?_ ?_
        · skip
          exact (zk_M_atom_115 hW) _ h2
        · skip
          refine Kf.ite ?_ ?_
          · skip
            exact (zk_M_atom_115 hW) _ h2
          · skip
            refine Kf.ite ?_ ?_
            · skip
              exact (zk_M_atom_115 hW) _ h2
            · skip
              refine Kf.ite ?_ ?_
              · skip
                exact (zk_M_atom_115 hW) _ h2
              · skip
                refine Kf.ite ?_ ?_
                · skip
                  exact (zk_M_atom_115 hW) _ h2
                · skip
                  refine Kf.bd ((zk_M_wrong (fun g r k i h => hW g r k i (Or.inr ⟨h.1, h.2.1, h.2.2.1, h.2.2.2⟩))) _ h2) (fun a13 S14 h3 => ?_)
                  refine Kf.ck ?_
                  exact Kf.some h3
  · skip
    refine Kf.bd ((zk_M_here (fun _ _ _ _ h => h.elim)) _ h1) (fun a16 S17 h4 => ?_)
    refine Kf.ite ?_ ?_
    · skip
      exact (zk_M_atom_21 hW) _ _ h4
    · skip
      exact (zk_M_atom_21 hW) _ _ h4
def zr_M_sum (g : Nat) (r k i : Int) : Prop := (g = 9 ∧ r = 0 ∧ k = 0 ∧ i = 12) ∨ (g = 9 ∧ r = 0 ∧ k = 0 ∧ i = 14)
theorem zk_M_sum_27 {W : Nat → Int → Int → Int → Prop} {S0 : Sg} (hW : ∀ g r k i, zr_M_sum g r k i → W g r k i) {q9 : Sg → Option (Int × Sg)} (hq9 : ∀ (S : Sg), Fm W S0 S → Kf W S0 (q9 S)) : ∀ (S : Sg), Fm W S0 S → Kf W S0 (zf_M_sum_27 q9 S) := by
  intro S h0
  unfold zf_M_sum_27
  refine Kf.put h0 (hW _ _ _ _ (Or.inl ⟨rfl, rfl, rfl, rfl⟩)) (fun S1 h1 => ?_)
  refine Kf.bd ((zk_M_atom (fun g r k i h => hW g r k i (Or.elim h (fun h => (Or.inl ⟨h.1, h.2.1, h.2.2.1, h.2.2.2⟩)) (fun h => (Or.inr ⟨h.1, h.2.1, h.2.2.1, h.2.2.2⟩))))) _ h1) (fun a2 S3 h2 => ?_)
  refine Kf.ite ?_ ?_
  · skip
    exact Kf.some h2
  · skip
    exact hq9 _ h2
theorem zk_M_sum_9 {W : Nat → Int → Int → Int → Prop} {S0 : Sg} (hW : ∀ g r k i, zr_M_sum g r k i → W g r k i) : ∀ (n : Nat) (S : Sg), Fm W S0 S → Kf W S0 (zf_M_sum_9 n S) := by
  intro n
  induction n with
  | zero => intro S h0; exact Kf.none
  | succ n ih =>
    intro S h0
    rw [zf_M_sum_9]
    refine Kf.bd ((zk_M_here (fun _ _ _ _ h => h.elim)) _ h0) (fun a1 S2 h1 => ?_)
    refine Kf.ite ?_ ?_
    · skip
      exact (zk_M_sum_27 hW ih) _ h1
    · skip
      refine Kf.bd ((zk_M_here (fun _ _ _ _ h => h.elim)) _ h1) (fun a4 S5 h2 => ?_)
      refine Kf.ite ?_ ?_
      · skip
        exact (zk_M_sum_27 hW ih) _ h2
      · skip
        exact Kf.some h2
theorem zk_M_sum {W : Nat → Int → Int → Int → Prop} {S0 : Sg} (hW : ∀ g r k i, zr_M_sum g r k i → W g r k i) : ∀ (S : Sg), Fm W S0 S → Kf W S0 (zf_M_sum S) := by
  intro S h0
  unfold zf_M_sum
  refine Kf.bd ((zk_M_atom (fun g r k i h => hW g r k i (Or.elim h (fun h => (Or.inl ⟨h.1, h.2.1, h.2.2.1, h.2.2.2⟩)) (fun h => (Or.inr ⟨h.1, h.2.1, h.2.2.1, h.2.2.2⟩))))) _ h0) (fun a1 S2 h1 => ?_)
  refine Kf.ite ?_ ?_
  · skip
    exact Kf.some h1
  · skip
    exact (zk_M_sum_9 hW) 4096 _ h1
def zr_M_factor (g : Nat) (r k i : Int) : Prop := (g = 9 ∧ r = 0 ∧ k = 0 ∧ i = 12) ∨ (g = 9 ∧ r = 0 ∧ k = 0 ∧ i = 13) ∨ (g = 9 ∧ r = 0 ∧ k = 0 ∧ i = 14)
theorem zk_M_factor_153 {W : Nat → Int → Int → Int → Prop} {S0 : Sg} (hW : ∀ g r k i, zr_M_factor g r k i → W g r k i) {F_M_factor : Sg → Option (Int × Sg)} (hF_M_factor : ∀ (S : Sg), Fm W S0 S → Kf W S0 (F_M_factor S)) {F_M_expr : Sg → Option (Int × Sg)} (hF_M_expr : ∀ (S : Sg), Fm W S0 S → Kf W S0 (F_M_expr S)) : ∀ (S : Sg), Fm W S0 S → Kf W S0 (zf_M_factor_153 F_M_factor F_M_expr S) := by
  intro S h0
  unfold zf_M_factor_153
  refine Kf.put h0 (hW _ _ _ _ (Or.inl ⟨rfl, rfl, rfl, rfl⟩)) (fun S1 h1 => ?_)
  refine Kf.bd ((zk_M_sum (fun g r k i h => hW g r k i (Or.elim h (fun h => (Or.inl ⟨h.1, h.2.1, h.2.2.1, h.2.2.2⟩)) (fun h => (Or.inr (Or.inr ⟨h.1, h.2.1, h.2.2.1, h.2.2.2⟩)))))) _ h1) (fun a2 S3 h2 => ?_)
  refine Kf.ck ?_
  exact Kf.some h2
theorem zk_M_factor_B {W : Nat → Int → Int → Int → Prop} {S0 : Sg} (hW : ∀ g r k i, zr_M_factor g r k i → W g r k i) {F_M_factor : Sg → Option (Int × Sg)} (hF_M_factor : ∀ (S : Sg), Fm W S0 S → Kf W S0 (F_M_factor S)) {F_M_expr : Sg → Option (Int × Sg)} (hF_M_expr : ∀ (S : Sg), Fm W S0 S → Kf W S0 (F_M_expr S)) : ∀ (S : Sg), Fm W S0 S → Kf W S0 (zf_M_factor_B F_M_factor F_M_expr S) := by
  intro S h0
  unfold zf_M_factor_B
  refine Kf.bd ((zk_M_here (fun _ _ _ _ h => h.elim)) _ h0) (fun a1 S2 h1 => ?_)
  refine Kf.ite ?_ ?_
  · skip
    refine Kf.put h1 (hW _ _ _ _ (Or.inl ⟨rfl, rfl, rfl, rfl⟩)) (fun S39 h2 => ?_)
    refine Kf.bd (hF_M_factor _ h2) (fun a40 S41 h3 => ?_)
    refine Kf.ck ?_
    exact Kf.some h3
  · skip
    refine Kf.bd ((zk_M_here (fun _ _ _ _ h => h.elim)) _ h1) (fun a4 S5 h4 => ?_)
    refine Kf.ite ?_ ?_
    · skip
      refine Kf.ite ?_ ?_
      · skip
        refine Kf.bd ((zk_M_wrong (fun g r k i h => hW g r k i (Or.inr (Or.inr ⟨h.1, h.2.1, h.2.2.1, h.2.2.2⟩)))) _ h4) (fun a36 S37 h5 => ?_)
        refine Kf.ck ?_
        exact Kf.some h5
      · skip
        refine Kf.put h4 (hW _ _ _ _ (Or.inr (Or.inl ⟨rfl, rfl, rfl, rfl⟩))) (fun S23 h6 => ?_)
        refine Kf.put h6 (hW _ _ _ _ (Or.inl ⟨rfl, rfl, rfl, rfl⟩)) (fun S24 h7 => ?_)
        refine Kf.bd (hF_M_expr _ h7) (fun a25 S26 h8 => ?_)
        refine Kf.ite ?_ ?_
        · skip
          exact Kf.some h8
        · skip
          refine Kf.bd ((zk_M_here (fun _ _ _ _ h => h.elim)) _ h8) (fun a28 S29 h9 => ?_)
          refine Kf.ite ?_ ?_
          · skip
            refine Kf.put h9 (hW _ _ _ _ (Or.inl ⟨rfl, rfl, rfl, rfl⟩)) (fun S31 h10 => ?_)
            refine Kf.put h10 (hW _ _ _ _ (Or.inr (Or.inl ⟨rfl, rfl, rfl, rfl⟩))) (fun S32 h11 => ?_)
            exact Kf.some h11
          · skip
            refine Kf.bd ((zk_M_wrong (fun g r k i h => hW g r k i (Or.inr (Or.inr ⟨h.1, h.2.1, h.2.2.1, h.2.2.2⟩)))) _ h9) (fun a33 S34 h12 => ?_)
            refine Kf.ck ?_
            exact Kf.some h12
    · skip
      refine Kf.bd ((zk_M_sum (fun g r k i h => hW g r k i (Or.elim h (fun h => (Or.inl ⟨h.1, h.2.1, h.2.2.1, h.2.2.2⟩)) (fun h => (Or.inr (Or.inr ⟨h.1, h.2.1, h.2.2.1, h.2.2.2⟩)))))) _ h4) (fun a7 S8 h13 => ?_)
      refine Kf.ite ?_ ?_
      · skip
        exact Kf.some h13
      · skip
        refine Kf.bd ((zk_M_here (fun _ _ _ _ h => h.elim)) _ h13) (fun a10 S11 h14 => ?_)
        refine Kf.ite ?_ ?_
        · skip
          exact (zk_M_factor_153 hW hF_M_factor hF_M_expr) _ h14
        · skip
          refine Kf.bd ((zk_M_here (fun _ _ _ _ h => h.elim)) _ h14) (fun a13 S14 h15 => ?_)
          refine Kf.ite ?_ ?_
          · skip
            exact (zk_M_factor_153 hW hF_M_factor hF_M_expr) _ h15
          · skip
            refine Kf.bd ((zk_M_here (fun _ _ _ _ h => h.elim)) _ h15) (fun a16 S17 h16 => ?_)
            refine Kf.ite ?_ ?_
            · skip
              exact (zk_M_factor_153 hW hF_M_factor hF_M_expr) _ h16
            · skip
              refine Kf.bd ((zk_M_wrong (fun g r k i h => hW g r k i (Or.inr (Or.inr ⟨h.1, h.2.1, h.2.2.1, h.2.2.2⟩)))) _ h16) (fun a19 S20 h17 => ?_)
              refine Kf.ck ?_
              exact Kf.some h17
def zr_M_term (g : Nat) (r k i : Int) : Prop := (g = 9 ∧ r = 0 ∧ k = 0 ∧ i = 12) ∨ (g = 9 ∧ r = 0 ∧ k = 0 ∧ i = 13) ∨ (g = 9 ∧ r = 0 ∧ k = 0 ∧ i = 14)
theorem zk_M_term_9 {W : Nat → Int → Int → Int → Prop} {S0 : Sg} (hW : ∀ g r k i, zr_M_term g r k i → W g r k i) {F_M_factor : Sg → Option (Int × Sg)} (hF_M_factor : ∀ (S : Sg), Fm W S0 S → Kf W S0 (F_M_factor S)) : ∀ (n : Nat) (S : Sg), Fm W S0 S → Kf W S0 (zf_M_term_9 F_M_factor n S) := by
  intro n
  induction n with
  | zero => intro S h0; exact Kf.none
  | succ n ih =>
    intro S h0
    rw [zf_M_term_9]
    refine Kf.bd ((zk_M_here (fun _ _ _ _ h => h.elim)) _ h0) (fun a1 S2 h1 => ?_)
    refine Kf.ite ?_ ?_
    · skip
      refine Kf.put h1 (hW _ _ _ _ (Or.inl ⟨rfl, rfl, rfl, rfl⟩)) (fun S4 h2 => ?_)
      refine Kf.bd (hF_M_factor _ h2) (fun a5 S6 h3 => ?_)
      refine Kf.ite ?_ ?_
      · skip
        exact Kf.some h3
      · skip
        exact ih _ h3
    · skip
      exact Kf.some h1
theorem zk_M_term_B {W : Nat → Int → Int → Int → Prop} {S0 : Sg} (hW : ∀ g r k i, zr_M_term g r k i → W g r k i) {F_M_factor : Sg → Option (Int × Sg)} (hF_M_factor : ∀ (S : Sg), Fm W S0 S → Kf W S0 (F_M_factor S)) : ∀ (S : Sg), Fm W S0 S → Kf W S0 (zf_M_term_B F_M_factor S) := by
  intro S h0
  unfold zf_M_term_B
  refine Kf.bd (hF_M_factor _ h0) (fun a1 S2 h1 => ?_)
  refine Kf.ite ?_ ?_
  · skip
    exact Kf.some h1
  · skip
    exact (zk_M_term_9 hW hF_M_factor) 4096 _ h1
def zr_M_expr (g : Nat) (r k i : Int) : Prop := (g = 9 ∧ r = 0 ∧ k = 0 ∧ i = 12) ∨ (g = 9 ∧ r = 0 ∧ k = 0 ∧ i = 13) ∨ (g = 9 ∧ r = 0 ∧ k = 0 ∧ i = 14)
theorem zk_M_expr_9 {W : Nat → Int → Int → Int → Prop} {S0 : Sg} (hW : ∀ g r k i, zr_M_expr g r k i → W g r k i) {F_M_term : Sg → Option (Int × Sg)} (hF_M_term : ∀ (S : Sg), Fm W S0 S → Kf W S0 (F_M_term S)) : ∀ (n : Nat) (S : Sg), Fm W S0 S → Kf W S0 (zf_M_expr_9 F_M_term n S) := by
  intro n
  induction n with
  | zero => intro S h0; exact Kf.none
  | succ n ih =>
    intro S h0
    rw [zf_M_expr_9]
    refine Kf.bd ((zk_M_here (fun _ _ _ _ h => h.elim)) _ h0) (fun a1 S2 h1 => ?_)
    refine Kf.ite ?_ ?_
    · skip
      refine Kf.put h1 (hW _ _ _ _ (Or.inl ⟨rfl, rfl, rfl, rfl⟩)) (fun S4 h2 => ?_)
      refine Kf.bd (hF_M_term _ h2) (fun a5 S6 h3 => ?_)
      refine Kf.ite ?_ ?_
      · skip
        exact Kf.some h3
      · skip
        exact ih _ h3
    · skip
      exact Kf.some h1
theorem zk_M_expr_B {W : Nat → Int → Int → Int → Prop} {S0 : Sg} (hW : ∀ g r k i, zr_M_expr g r k i → W g r k i) {F_M_term : Sg → Option (Int × Sg)} (hF_M_term : ∀ (S : Sg), Fm W S0 S → Kf W S0 (F_M_term S)) : ∀ (S : Sg), Fm W S0 S → Kf W S0 (zf_M_expr_B F_M_term S) := by
  intro S h0
  unfold zf_M_expr_B
  refine Kf.bd (hF_M_term _ h0) (fun a1 S2 h1 => ?_)
  refine Kf.ite ?_ ?_
  · skip
    exact Kf.some h1
  · skip
    exact (zk_M_expr_9 hW hF_M_term) 4096 _ h1
theorem zk_M_factor_D {W : Nat → Int → Int → Int → Prop} {S0 : Sg} (hW : ∀ g r k i, zr_M_factor g r k i → W g r k i) : ∀ (n : Nat) (S : Sg), Fm W S0 S → Kf W S0 (zf_M_factor_D n S) := by
  intro n
  induction n with
  | zero => intro S h0; exact Kf.none
  | succ n ih =>
    intro S h0
    rw [zf_M_factor_D]
    exact (zk_M_factor_B hW ih (zk_M_expr_B (fun g r k i h => hW g r k i (Or.elim h (fun h => (Or.inl ⟨h.1, h.2.1, h.2.2.1, h.2.2.2⟩)) (fun h => (Or.elim h (fun h => (Or.inr (Or.inl ⟨h.1, h.2.1, h.2.2.1, h.2.2.2⟩))) (fun h => (Or.inr (Or.inr ⟨h.1, h.2.1, h.2.2.1, h.2.2.2⟩))))))) (zk_M_term_B (fun g r k i h => hW g r k i (Or.elim h (fun h => (Or.inl ⟨h.1, h.2.1, h.2.2.1, h.2.2.2⟩)) (fun h => (Or.elim h (fun h => (Or.inr (Or.inl ⟨h.1, h.2.1, h.2.2.1, h.2.2.2⟩))) (fun h => (Or.inr (Or.inr ⟨h.1, h.2.1, h.2.2.1, h.2.2.2⟩))))))) ih))) _ h0
theorem zk_M_factor {W : Nat → Int → Int → Int → Prop} {S0 : Sg} (hW : ∀ g r k i, zr_M_factor g r k i → W g r k i) : ∀ (S : Sg), Fm W S0 S → Kf W S0 (zf_M_factor S) := by
  intro S h0
  unfold zf_M_factor
  exact (zk_M_factor_D hW) 128 _ h0
theorem zk_M_term {W : Nat → Int → Int → Int → Prop} {S0 : Sg} (hW : ∀ g r k i, zr_M_term g r k i → W g r k i) : ∀ (S : Sg), Fm W S0 S → Kf W S0 (zf_M_term S) := by
  intro S h0
  unfold zf_M_term
  exact (zk_M_term_B hW (zk_M_factor_D (fun g r k i h => hW g r k i (Or.elim h (fun h => (Or.inl ⟨h.1, h.2.1, h.2.2.1, h.2.2.2⟩)) (fun h => (Or.elim h (fun h => (Or.inr (Or.inl ⟨h.1, h.2.1, h.2.2.1, h.2.2.2⟩))) (fun h => (Or.inr (Or.inr ⟨h.1, h.2.1, h.2.2.1, h.2.2.2⟩))))))) 128)) _ h0
theorem zk_M_expr {W : Nat → Int → Int → Int → Prop} {S0 : Sg} (hW : ∀ g r k i, zr_M_expr g r k i → W g r k i) : ∀ (S : Sg), Fm W S0 S → Kf W S0 (zf_M_expr S) := by
  intro S h0
  unfold zf_M_expr
  exact (zk_M_expr_B hW (zk_M_term_B (fun g r k i h => hW g r k i (Or.elim h (fun h => (Or.inl ⟨h.1, h.2.1, h.2.2.1, h.2.2.2⟩)) (fun h => (Or.elim h (fun h => (Or.inr (Or.inl ⟨h.1, h.2.1, h.2.2.1, h.2.2.2⟩))) (fun h => (Or.inr (Or.inr ⟨h.1, h.2.1, h.2.2.1, h.2.2.2⟩))))))) (zk_M_factor_D (fun g r k i h => hW g r k i (Or.elim h (fun h => (Or.inl ⟨h.1, h.2.1, h.2.2.1, h.2.2.2⟩)) (fun h => (Or.elim h (fun h => (Or.inr (Or.inl ⟨h.1, h.2.1, h.2.2.1, h.2.2.2⟩))) (fun h => (Or.inr (Or.inr ⟨h.1, h.2.1, h.2.2.1, h.2.2.2⟩))))))) 128))) _ h0
def zr_M_text (g : Nat) (r k i : Int) : Prop := (g = 9 ∧ r = 0 ∧ k = 0 ∧ i = 12) ∨ (g = 9 ∧ r = 0 ∧ k = 0 ∧ i = 13) ∨ (g = 9 ∧ r = 0 ∧ k = 0 ∧ i = 14)
theorem zk_M_text_93 {W : Nat → Int → Int → Int → Prop} {S0 : Sg} (hW : ∀ g r k i, zr_M_text g r k i → W g r k i) : ∀ (S : Sg), Fm W S0 S → Kf W S0 (zf_M_text_93 S) := by
  intro S h0
  unfold zf_M_text_93
  exact Kf.some h0
theorem zk_M_text_34 {W : Nat → Int → Int → Int → Prop} {S0 : Sg} (hW : ∀ g r k i, zr_M_text g r k i → W g r k i) : ∀ (S : Sg), Fm W S0 S → Kf W S0 (zf_M_text_34 S) := by
  intro S h0
  unfold zf_M_text_34
  refine Kf.put h0 (hW _ _ _ _ (Or.inl ⟨rfl, rfl, rfl, rfl⟩)) (fun S1 h1 => ?_)
  refine Kf.bd ((zk_M_here (fun _ _ _ _ h => h.elim)) _ h1) (fun a2 S3 h2 => ?_)
  refine Kf.ite ?_ ?_
  · skip
    refine Kf.put h2 (hW _ _ _ _ (Or.inl ⟨rfl, rfl, rfl, rfl⟩)) (fun S5 h3 => ?_)
    refine Kf.bd ((zk_M_expr (fun g r k i h => hW g r k i (Or.elim h (fun h => (Or.inl ⟨h.1, h.2.1, h.2.2.1, h.2.2.2⟩)) (fun h => (Or.elim h (fun h => (Or.inr (Or.inl ⟨h.1, h.2.1, h.2.2.1, h.2.2.2⟩))) (fun h => (Or.inr (Or.inr ⟨h.1, h.2.1, h.2.2.1, h.2.2.2⟩)))))))) _ h3) (fun a6 S7 h4 => ?_)
    refine Kf.ite ?_ ?_
    · skip
      exact Kf.some h4
    · skip
      refine Kf.ite ?_ ?_
      · skip
        exact (zk_M_text_93 hW) _ h4
      · skip
        refine Kf.bd ((zk_M_wrong (fun g r k i h => hW g r k i (Or.inr (Or.inr ⟨h.1, h.2.1, h.2.2.1, h.2.2.2⟩)))) _ h4) (fun a10 S11 h5 => ?_)
        refine Kf.ite ?_ ?_
        · skip
          exact Kf.some h5
        · skip
          exact (zk_M_text_93 hW) _ h5
  · skip
    refine Kf.bd ((zk_M_wrong (fun g r k i h => hW g r k i (Or.inr (Or.inr ⟨h.1, h.2.1, h.2.2.1, h.2.2.2⟩)))) _ h2) (fun a13 S14 h6 => ?_)
    refine Kf.ck ?_
    exact Kf.some h6
theorem zk_M_text {W : Nat → Int → Int → Int → Prop} {S0 : Sg} (hW : ∀ g r k i, zr_M_text g r k i → W g r k i) : ∀ (S : Sg), Fm W S0 S → Kf W S0 (zf_M_text S) := by
  intro S h0
  unfold zf_M_text
  refine Kf.bd ((zk_M_here (fun _ _ _ _ h => h.elim)) _ h0) (fun a1 S2 h1 => ?_)
  refine Kf.ite ?_ ?_
  · skip
    exact (zk_M_text_34 hW) _ h1
  · skip
    refine Kf.ite ?_ ?_
    · skip
      exact (zk_M_text_34 hW) _ h1
    · skip
      refine Kf.ite ?_ ?_
      · skip
        exact (zk_M_text_34 hW) _ h1
      · skip
        refine Kf.ite ?_ ?_
        · skip
          exact (zk_M_text_34 hW) _ h1
        · skip
          refine Kf.bd ((zk_M_wrong (fun g r k i h => hW g r k i (Or.inr (Or.inr ⟨h.1, h.2.1, h.2.2.1, h.2.2.2⟩)))) _ h1) (fun a7 S8 h2 => ?_)
          refine Kf.ck ?_
          exact Kf.some h2
def zr_M_faultOf (g : Nat) (r k i : Int) : Prop := (g = 9 ∧ r = 0 ∧ k = 0 ∧ i = 10) ∨ (g = 9 ∧ r = 0 ∧ k = 0 ∧ i = 11) ∨ (g = 9 ∧ r = 0 ∧ k = 0 ∧ i = 12) ∨ (g = 9 ∧ r = 0 ∧ k = 0 ∧ i = 13) ∨ (g = 9 ∧ r = 0 ∧ k = 0 ∧ i = 14)
theorem zk_M_faultOf {W : Nat → Int → Int → Int → Prop} {S0 : Sg} (hW : ∀ g r k i, zr_M_faultOf g r k i → W g r k i) : ∀ (x1 : Int) (S : Sg), Fm W S0 S → Kf W S0 (zf_M_faultOf x1 S) := by
  intro x1 S h0
  unfold zf_M_faultOf
  refine Kf.ck ?_
  refine Kf.put h0 (hW _ _ _ _ (Or.inl ⟨rfl, rfl, rfl, rfl⟩)) (fun S2 h1 => ?_)
  refine Kf.put h1 (hW _ _ _ _ (Or.inr (Or.inl ⟨rfl, rfl, rfl, rfl⟩))) (fun S3 h2 => ?_)
  refine Kf.put h2 (hW _ _ _ _ (Or.inr (Or.inr (Or.inl ⟨rfl, rfl, rfl, rfl⟩)))) (fun S4 h3 => ?_)
  refine Kf.put h3 (hW _ _ _ _ (Or.inr (Or.inr (Or.inr (Or.inl ⟨rfl, rfl, rfl, rfl⟩))))) (fun S5 h4 => ?_)
  refine Kf.bd ((zk_M_text (fun g r k i h => hW g r k i (Or.elim h (fun h => (Or.inr (Or.inr (Or.inl ⟨h.1, h.2.1, h.2.2.1, h.2.2.2⟩)))) (fun h => (Or.elim h (fun h => (Or.inr (Or.inr (Or.inr (Or.inl ⟨h.1, h.2.1, h.2.2.1, h.2.2.2⟩))))) (fun h => (Or.inr (Or.inr (Or.inr (Or.inr ⟨h.1, h.2.1, h.2.2.1, h.2.2.2⟩)))))))))) _ h4) (fun a6 S7 h5 => ?_)
  refine Kf.ite ?_ ?_
  · skip
    exact Kf.some h5
  · skip
    exact Kf.some h5
def zr_M_isShelf (g : Nat) (r k i : Int) : Prop := False
theorem zk_M_isShelf {W : Nat → Int → Int → Int → Prop} {S0 : Sg} (hW : ∀ g r k i, zr_M_isShelf g r k i → W g r k i) : ∀ (x0 : Int) (S : Sg), Fm W S0 S → Kf W S0 (zf_M_isShelf x0 S) := by
  intro x0 S h0
  unfold zf_M_isShelf
  refine Kf.bd ((zk_M_in (fun _ _ _ _ h => h.elim)) _ _ _ _ h0) (fun a1 S2 h1 => ?_)
  refine Kf.ck ?_
  exact Kf.some h1
def zr_M_noBytes (g : Nat) (r k i : Int) : Prop := False
theorem zk_M_noBytes_33 {W : Nat → Int → Int → Int → Prop} {S0 : Sg} (hW : ∀ g r k i, zr_M_noBytes g r k i → W g r k i) : ∀ (S : Sg), Fm W S0 S → Kf W S0 (zf_M_noBytes_33 S) := by
  intro S h0
  unfold zf_M_noBytes_33
  exact Kf.some h0
theorem zk_M_noBytes {W : Nat → Int → Int → Int → Prop} {S0 : Sg} (hW : ∀ g r k i, zr_M_noBytes g r k i → W g r k i) : ∀ (x1 : Int) (S : Sg), Fm W S0 S → Kf W S0 (zf_M_noBytes x1 S) := by
  intro x1 S h0
  unfold zf_M_noBytes
  refine Kf.ck ?_
  refine Kf.ite ?_ ?_
  · skip
    exact Kf.some h0
  · skip
    refine Kf.ite ?_ ?_
    · skip
      refine Kf.ite ?_ ?_
      · skip
        exact Kf.some h0
      · skip
        exact (zk_M_noBytes_33 hW) _ h0
    · skip
      exact (zk_M_noBytes_33 hW) _ h0
def zr_M_fault (g : Nat) (r k i : Int) : Prop := (g = 9 ∧ r = 0 ∧ k = 0 ∧ i = 10) ∨ (g = 9 ∧ r = 0 ∧ k = 0 ∧ i = 11) ∨ (g = 9 ∧ r = 0 ∧ k = 0 ∧ i = 12) ∨ (g = 9 ∧ r = 0 ∧ k = 0 ∧ i = 13) ∨ (g = 9 ∧ r = 0 ∧ k = 0 ∧ i = 14) ∨ (g = 9 ∧ r = 0 ∧ k = 0 ∧ i = 4)
theorem zk_M_fault {W : Nat → Int → Int → Int → Prop} {S0 : Sg} (hW : ∀ g r k i, zr_M_fault g r k i → W g r k i) : ∀ (x1 : Int) (S : Sg), Fm W S0 S → Kf W S0 (zf_M_fault x1 S) := by
  intro x1 S h0
  unfold zf_M_fault
  refine Kf.put h0 (hW _ _ _ _ (Or.inr (Or.inr (Or.inr (Or.inr (Or.inr ⟨rfl, rfl, rfl, rfl⟩)))))) (fun S1 h1 => ?_)
  refine Kf.bd ((zk_M_isShelf (fun _ _ _ _ h => h.elim)) _ _ h1) (fun a2 S3 h2 => ?_)
  refine Kf.ite ?_ ?_
  · skip
    exact Kf.some h2
  · skip
    refine Kf.bd ((zk_M_noBytes (fun _ _ _ _ h => h.elim)) _ _ h2) (fun a5 S6 h3 => ?_)
    refine Kf.ite ?_ ?_
    · skip
      refine Kf.bd ((zk_M_faultOf (fun g r k i h => hW g r k i (Or.elim h (fun h => (Or.inl ⟨h.1, h.2.1, h.2.2.1, h.2.2.2⟩)) (fun h => (Or.elim h (fun h => (Or.inr (Or.inl ⟨h.1, h.2.1, h.2.2.1, h.2.2.2⟩))) (fun h => (Or.elim h (fun h => (Or.inr (Or.inr (Or.inl ⟨h.1, h.2.1, h.2.2.1, h.2.2.2⟩)))) (fun h => (Or.elim h (fun h => (Or.inr (Or.inr (Or.inr (Or.inl ⟨h.1, h.2.1, h.2.2.1, h.2.2.2⟩))))) (fun h => (Or.inr (Or.inr (Or.inr (Or.inr (Or.inl ⟨h.1, h.2.1, h.2.2.1, h.2.2.2⟩))))))))))))))) _ _ h3) (fun a8 S9 h4 => ?_)
      exact Kf.some h4
    · skip
      refine Kf.bd ((zk_M_noBytes (fun _ _ _ _ h => h.elim)) _ _ h3) (fun a10 S11 h5 => ?_)
      exact Kf.some h5
def zr_W_subject (r0 : Int) (g : Nat) (r k i : Int) : Prop := False
theorem zk_W_subject {W : Nat → Int → Int → Int → Prop} {S0 : Sg} {r0 : Int} (hW : ∀ g r k i, zr_W_subject r0 g r k i → W g r k i) : ∀ (x1 : Int) (S : Sg), Fm W S0 S → Kf W S0 (zf_W_subject r0 x1 S) := by
  intro x1 S h0
  unfold zf_W_subject
  refine Kf.ck ?_
  refine Kf.lt (fun v2 => ?_)
  refine Kf.ite ?_ ?_
  · skip
    exact Kf.some h0
  · skip
    refine Kf.ite ?_ ?_
    · skip
      exact Kf.some h0
    · skip
      refine Kf.ite ?_ ?_
      · skip
        exact Kf.some h0
      · skip
        exact Kf.some h0
def zr_W_force (r0 : Int) (g : Nat) (r k i : Int) : Prop := False
theorem zk_W_force_106 {W : Nat → Int → Int → Int → Prop} {S0 : Sg} {r0 : Int} (hW : ∀ g r k i, zr_W_force r0 g r k i → W g r k i) {q6 : Int → Int → Int → Int → Sg → Option (Int × Sg)} (hq6 : ∀ (x0 x1 x2 x3 : Int) (S : Sg), Fm W S0 S → Kf W S0 (q6 x0 x1 x2 x3 S)) : ∀ (x1 : Int) (x2 : Int) (x3 : Int) (x4 : Int) (S : Sg), Fm W S0 S → Kf W S0 (zf_W_force_106 r0 q6 x1 x2 x3 x4 S) := by
  intro x1 x2 x3 x4 S h0
  unfold zf_W_force_106
  refine Kf.lt (fun v1 => ?_)
  exact hq6 _ _ _ _ _ h0
theorem zk_W_force_103 {W : Nat → Int → Int → Int → Prop} {S0 : Sg} {r0 : Int} (hW : ∀ g r k i, zr_W_force r0 g r k i → W g r k i) {q6 : Int → Int → Int → Int → Sg → Option (Int × Sg)} (hq6 : ∀ (x0 x1 x2 x3 : Int) (S : Sg), Fm W S0 S → Kf W S0 (q6 x0 x1 x2 x3 S)) : ∀ (x1 : Int) (x2 : Int) (x4 : Int) (S : Sg), Fm W S0 S → Kf W S0 (zf_W_force_103 r0 q6 x1 x2 x4 S) := by
  intro x1 x2 x4 S h0
  unfold zf_W_force_103
  exact (zk_W_force_106 (r0 := r0) hW hq6) _ _ _ _ _ h0
theorem zk_W_force_74 {W : Nat → Int → Int → Int → Prop} {S0 : Sg} {r0 : Int} (hW : ∀ g r k i, zr_W_force r0 g r k i → W g r k i) {q6 : Int → Int → Int → Int → Sg → Option (Int × Sg)} (hq6 : ∀ (x0 x1 x2 x3 : Int) (S : Sg), Fm W S0 S → Kf W S0 (q6 x0 x1 x2 x3 S)) : ∀ (x1 : Int) (x2 : Int) (x3 : Int) (x4 : Int) (xt0 : Int) (S : Sg), Fm W S0 S → Kf W S0 (zf_W_force_74 r0 q6 x1 x2 x3 x4 xt0 S) := by
  intro x1 x2 x3 x4 xt0 S h0
  unfold zf_W_force_74
  refine Kf.ite ?_ ?_
  · skip
    exact (zk_W_force_106 (r0 := r0) hW hq6) _ _ _ _ _ h0
  · skip
    refine Kf.ite ?_ ?_
    · skip
      exact (zk_W_force_103 (r0 := r0) hW hq6) _ _ _ _ h0
    · skip
      refine Kf.ck ?_
      refine Kf.ck ?_
      refine Kf.ite ?_ ?_
      · skip
        exact (zk_W_force_106 (r0 := r0) hW hq6) _ _ _ _ _ h0
      · skip
        exact (zk_W_force_103 (r0 := r0) hW hq6) _ _ _ _ h0
theorem zk_W_force_73 {W : Nat → Int → Int → Int → Prop} {S0 : Sg} {r0 : Int} (hW : ∀ g r k i, zr_W_force r0 g r k i → W g r k i) {q6 : Int → Int → Int → Int → Sg → Option (Int × Sg)} (hq6 : ∀ (x0 x1 x2 x3 : Int) (S : Sg), Fm W S0 S → Kf W S0 (q6 x0 x1 x2 x3 S)) : ∀ (x1 : Int) (x2 : Int) (x3 : Int) (x4 : Int) (S : Sg), Fm W S0 S → Kf W S0 (zf_W_force_73 r0 q6 x1 x2 x3 x4 S) := by
  intro x1 x2 x3 x4 S h0
  unfold zf_W_force_73
  exact (zk_W_force_74 (r0 := r0) hW hq6) _ _ _ _ _ _ h0
theorem zk_W_force_69 {W : Nat → Int → Int → Int → Prop} {S0 : Sg} {r0 : Int} (hW : ∀ g r k i, zr_W_force r0 g r k i → W g r k i) {q6 : Int → Int → Int → Int → Sg → Option (Int × Sg)} (hq6 : ∀ (x0 x1 x2 x3 : Int) (S : Sg), Fm W S0 S → Kf W S0 (q6 x0 x1 x2 x3 S)) : ∀ (x1 : Int) (x2 : Int) (x3 : Int) (x4 : Int) (S : Sg), Fm W S0 S → Kf W S0 (zf_W_force_69 r0 q6 x1 x2 x3 x4 S) := by
  intro x1 x2 x3 x4 S h0
  unfold zf_W_force_69
  exact (zk_W_force_74 (r0 := r0) hW hq6) _ _ _ _ _ _ h0
theorem zk_W_force_6 {W : Nat → Int → Int → Int → Prop} {S0 : Sg} {r0 : Int} (hW : ∀ g r k i, zr_W_force r0 g r k i → W g r k i) : ∀ (n : Nat) (x1 x2 x3 x4 : Int) (S : Sg), Fm W S0 S → Kf W S0 (zf_W_force_6 r0 n x1 x2 x3 x4 S) := by
  intro n
  induction n with
  | zero => intro x1 x2 x3 x4 S h0; exact Kf.none
  | succ n ih =>
    intro x1 x2 x3 x4 S h0
    rw [zf_W_force_6]
    refine Kf.ite ?_ ?_
    · skip
      exact Kf.some h0
    · skip
      refine Kf.bd ((zk_W_subject (r0 := (r0)) (fun _ _ _ _ h => h.elim)) _ _ h0) (fun a2 S3 h1 => ?_)
      refine Kf.ite ?_ ?_
      · skip
        refine Kf.ck ?_
        refine Kf.ite ?_ ?_
        · skip
          refine Kf.ite ?_ ?_
          · skip
            exact (zk_W_force_73 (r0 := r0) hW ih) _ _ _ _ _ h1
          · skip
            refine Kf.ite ?_ ?_
            · skip
              exact (zk_W_force_69 (r0 := r0) hW ih) _ _ _ _ _ h1
            · skip
              refine Kf.ite ?_ ?_
              · skip
                exact (zk_W_force_73 (r0 := r0) hW ih) _ _ _ _ _ h1
              · skip
                exact (zk_W_force_69 (r0 := r0) hW ih) _ _ _ _ _ h1
        · skip
          exact (zk_W_force_73 (r0 := r0) hW ih) _ _ _ _ _ h1
      · skip
        exact (zk_W_force_73 (r0 := r0) hW ih) _ _ _ _ _ h1
theorem zk_W_force {W : Nat → Int → Int → Int → Prop} {S0 : Sg} {r0 : Int} (hW : ∀ g r k i, zr_W_force r0 g r k i → W g r k i) : ∀ (x1 : Int) (x2 : Int) (S : Sg), Fm W S0 S → Kf W S0 (zf_W_force r0 x1 x2 S) := by
  intro x1 x2 S h0
  unfold zf_W_force
  exact (zk_W_force_6 (r0 := r0) hW) 4096 _ _ _ _ _ h0
def zr_W_field (r0 : Int) (g : Nat) (r k i : Int) : Prop := False
theorem zk_W_field {W : Nat → Int → Int → Int → Prop} {S0 : Sg} {r0 : Int} (hW : ∀ g r k i, zr_W_field r0 g r k i → W g r k i) : ∀ (x1 : Int) (S : Sg), Fm W S0 S → Kf W S0 (zf_W_field r0 x1 S) := by
  intro x1 S h0
  unfold zf_W_field
  refine Kf.ite ?_ ?_
  · skip
    refine Kf.bd ((zk_W_age (r0 := (r0)) (fun _ _ _ _ h => h.elim)) _ _ h0) (fun a2 S3 h1 => ?_)
    exact Kf.some h1
  · skip
    refine Kf.ite ?_ ?_
    · skip
      refine Kf.ck ?_
      refine Kf.ck ?_
      exact Kf.some h0
    · skip
      refine Kf.ite ?_ ?_
      · skip
        refine Kf.ck ?_
        refine Kf.bd ((zk_W_heads (r0 := (r0)) (fun _ _ _ _ h => h.elim)) _ _ h0) (fun a9 S10 h2 => ?_)
        exact Kf.some h2
      · skip
        refine Kf.ite ?_ ?_
        · skip
          refine Kf.bd ((zk_W_kind (r0 := (r0)) (fun _ _ _ _ h => h.elim)) _ _ h0) (fun a12 S13 h3 => ?_)
          exact Kf.some h3
        · skip
          refine Kf.ite ?_ ?_
          · skip
            refine Kf.ck ?_
            refine Kf.bd ((zk_Ji_bitCount (fun _ _ _ _ h => h.elim)) _ _ h0) (fun a16 S17 h4 => ?_)
            exact Kf.some h4
          · skip
            refine Kf.ite ?_ ?_
            · skip
              exact Kf.some h0
            · skip
              refine Kf.ck ?_
              exact Kf.some h0
def zr_W_atom (r0 : Int) (g : Nat) (r k i : Int) : Prop := (g = 5 ∧ r = r0 ∧ k = 0 ∧ i = 48)
theorem zk_W_atom_29 {W : Nat → Int → Int → Int → Prop} {S0 : Sg} {r0 : Int} (hW : ∀ g r k i, zr_W_atom r0 g r k i → W g r k i) : ∀ (x1 : Int) (S : Sg), Fm W S0 S → Kf W S0 (zf_W_atom_29 r0 x1 S) := by
  intro x1 S h0
  unfold zf_W_atom_29
  refine Kf.bd ((zk_W_field (r0 := (r0)) (fun _ _ _ _ h => h.elim)) _ _ h0) (fun a1 S2 h1 => ?_)
  exact Kf.some h1
theorem zk_W_atom_40 {W : Nat → Int → Int → Int → Prop} {S0 : Sg} {r0 : Int} (hW : ∀ g r k i, zr_W_atom r0 g r k i → W g r k i) : ∀ (n : Nat) (x2 : Int) (S : Sg), Fm W S0 S → Kf W S0 (zf_W_atom_40 r0 n x2 S) := by
  intro n
  induction n with
  | zero => intro x2 S h0; exact Kf.none
  | succ n ih =>
    intro x2 S h0
    rw [zf_W_atom_40]
    refine Kf.ck ?_
    refine Kf.ck ?_
    refine Kf.ite ?_ ?_
    · skip
      exact Kf.some h0
    · skip
      refine Kf.ite ?_ ?_
      · skip
        exact Kf.some h0
      · skip
        refine Kf.put h0 (hW _ _ _ _ ⟨rfl, rfl, rfl, rfl⟩) (fun S5 h1 => ?_)
        refine Kf.lt (fun v7 => ?_)
        exact ih _ _ h1
theorem zk_W_atom {W : Nat → Int → Int → Int → Prop} {S0 : Sg} {r0 : Int} (hW : ∀ g r k i, zr_W_atom r0 g r k i → W g r k i) : ∀ (S : Sg), Fm W S0 S → Kf W S0 (zf_W_atom r0 S) := by
  intro S h0
  unfold zf_W_atom
  refine Kf.ck ?_
  refine Kf.put h0 (hW _ _ _ _ ⟨rfl, rfl, rfl, rfl⟩) (fun S2 h1 => ?_)
  refine Kf.ck ?_
  refine Kf.lt (fun v5 => ?_)
  refine Kf.ite ?_ ?_
  · skip
    exact (zk_W_atom_29 (r0 := r0) hW) _ _ h1
  · skip
    refine Kf.ite ?_ ?_
    · skip
      refine Kf.lt (fun v8 => ?_)
      exact (zk_W_atom_40 (r0 := r0) hW) 4096 _ _ h1
    · skip
      exact (zk_W_atom_29 (r0 := r0) hW) _ _ h1
def zr_W_sum (r0 : Int) (g : Nat) (r k i : Int) : Prop := (g = 5 ∧ r = r0 ∧ k = 0 ∧ i = 48)
theorem zk_W_sum_59 {W : Nat → Int → Int → Int → Prop} {S0 : Sg} {r0 : Int} (hW : ∀ g r k i, zr_W_sum r0 g r k i → W g r k i) {q5 : Int → Sg → Option (Int × Sg)} (hq5 : ∀ (x0 : Int) (S : Sg), Fm W S0 S → Kf W S0 (q5 x0 S)) : ∀ (x1 : Int) (xt0 : Int) (S : Sg), Fm W S0 S → Kf W S0 (zf_W_sum_59 r0 q5 x1 xt0 S) := by
  intro x1 xt0 S h0
  unfold zf_W_sum_59
  refine Kf.bd ((zk_W_atom (r0 := (r0)) (fun g r k i h => hW g r k i ⟨h.1, h.2.1, h.2.2.1, h.2.2.2⟩)) _ h0) (fun a1 S2 h1 => ?_)
  refine Kf.lt (fun v3 => ?_)
  exact hq5 _ _ h1
theorem zk_W_sum_33 {W : Nat → Int → Int → Int → Prop} {S0 : Sg} {r0 : Int} (hW : ∀ g r k i, zr_W_sum r0 g r k i → W g r k i) {q5 : Int → Sg → Option (Int × Sg)} (hq5 : ∀ (x0 : Int) (S : Sg), Fm W S0 S → Kf W S0 (q5 x0 S)) : ∀ (x1 : Int) (S : Sg), Fm W S0 S → Kf W S0 (zf_W_sum_33 r0 q5 x1 S) := by
  intro x1 S h0
  unfold zf_W_sum_33
  refine Kf.ck ?_
  refine Kf.put h0 (hW _ _ _ _ ⟨rfl, rfl, rfl, rfl⟩) (fun S2 h1 => ?_)
  refine Kf.ck ?_
  refine Kf.ite ?_ ?_
  · skip
    exact (zk_W_sum_59 (r0 := r0) hW hq5) _ _ _ h1
  · skip
    exact (zk_W_sum_59 (r0 := r0) hW hq5) _ _ _ h1
theorem zk_W_sum_5 {W : Nat → Int → Int → Int → Prop} {S0 : Sg} {r0 : Int} (hW : ∀ g r k i, zr_W_sum r0 g r k i → W g r k i) : ∀ (n : Nat) (x1 : Int) (S : Sg), Fm W S0 S → Kf W S0 (zf_W_sum_5 r0 n x1 S) := by
  intro n
  induction n with
  | zero => intro x1 S h0; exact Kf.none
  | succ n ih =>
    intro x1 S h0
    rw [zf_W_sum_5]
    refine Kf.ck ?_
    refine Kf.ck ?_
    refine Kf.ite ?_ ?_
    · skip
      exact (zk_W_sum_33 (r0 := r0) hW ih) _ _ h0
    · skip
      refine Kf.ite ?_ ?_
      · skip
        exact (zk_W_sum_33 (r0 := r0) hW ih) _ _ h0
      · skip
        exact Kf.some h0
theorem zk_W_sum {W : Nat → Int → Int → Int → Prop} {S0 : Sg} {r0 : Int} (hW : ∀ g r k i, zr_W_sum r0 g r k i → W g r k i) : ∀ (S : Sg), Fm W S0 S → Kf W S0 (zf_W_sum r0 S) := by
  intro S h0
  unfold zf_W_sum
  refine Kf.bd ((zk_W_atom (r0 := (r0)) (fun g r k i h => hW g r k i ⟨h.1, h.2.1, h.2.2.1, h.2.2.2⟩)) _ h0) (fun a1 S2 h1 => ?_)
  exact (zk_W_sum_5 (r0 := r0) hW) 4096 _ _ h1
def zr_W_factor (r0 : Int) (g : Nat) (r k i : Int) : Prop := (g = 5 ∧ r = r0 ∧ k = 0 ∧ i = 48)
theorem zk_W_factor_B {W : Nat → Int → Int → Int → Prop} {S0 : Sg} {r0 : Int} (hW : ∀ g r k i, zr_W_factor r0 g r k i → W g r k i) {F_W_factor : Sg → Option (Int × Sg)} (hF_W_factor : ∀ (S : Sg), Fm W S0 S → Kf W S0 (F_W_factor S)) {F_W_expr : Sg → Option (Int × Sg)} (hF_W_expr : ∀ (S : Sg), Fm W S0 S → Kf W S0 (F_W_expr S)) : ∀ (S : Sg), Fm W S0 S → Kf W S0 (zf_W_factor_B r0 F_W_factor F_W_expr S) := by
  intro S h0
  unfold zf_W_factor_B
  refine Kf.ck ?_
  refine Kf.ck ?_
  refine Kf.ite ?_ ?_
  · skip
    refine Kf.put h0 (hW _ _ _ _ ⟨rfl, rfl, rfl, rfl⟩) (fun S24 h1 => ?_)
    refine Kf.bd (hF_W_factor _ h1) (fun a25 S26 h2 => ?_)
    refine Kf.ite ?_ ?_
    · skip
      exact Kf.some h2
    · skip
      exact Kf.some h2
  · skip
    refine Kf.ite ?_ ?_
    · skip
      refine Kf.put h0 (hW _ _ _ _ ⟨rfl, rfl, rfl, rfl⟩) (fun S19 h3 => ?_)
      refine Kf.bd (hF_W_expr _ h3) (fun a20 S21 h4 => ?_)
      refine Kf.put h4 (hW _ _ _ _ ⟨rfl, rfl, rfl, rfl⟩) (fun S22 h5 => ?_)
      refine Kf.ck ?_
      exact Kf.some h5
    · skip
      refine Kf.bd ((zk_W_sum (r0 := (r0)) (fun g r k i h => hW g r k i ⟨h.1, h.2.1, h.2.2.1, h.2.2.2⟩)) _ h0) (fun a5 S6 h6 => ?_)
      refine Kf.ck ?_
      refine Kf.put h6 (hW _ _ _ _ ⟨rfl, rfl, rfl, rfl⟩) (fun S8 h7 => ?_)
      refine Kf.ck ?_
      refine Kf.lt (fun v11 => ?_)
      refine Kf.bd ((zk_W_sum (r0 := (r0)) (fun g r k i h => hW g r k i ⟨h.1, h.2.1, h.2.2.1, h.2.2.2⟩)) _ h7) (fun a12 S13 h9 => ?_)
      refine Kf.ite ?_ ?_
      · skip
        refine Kf.ite ?_ ?_
        · skip
          exact Kf.some h9
        · skip
          exact Kf.some h9
      · skip
        refine Kf.ite ?_ ?_
        · skip
          refine Kf.ite ?_ ?_
          · skip
            exact Kf.some h9
          · skip
            exact Kf.some h9
        · skip
          refine Kf.ite ?_ ?_
          · skip
            exact Kf.some h9
          · skip
            exact Kf.some h9
def zr_W_term (r0 : Int) (g : Nat) (r k i : Int) : Prop := (g = 5 ∧ r = r0 ∧ k = 0 ∧ i = 48)
theorem zk_W_term_5 {W : Nat → Int → Int → Int → Prop} {S0 : Sg} {r0 : Int} (hW : ∀ g r k i, zr_W_term r0 g r k i → W g r k i) {F_W_factor : Sg → Option (Int × Sg)} (hF_W_factor : ∀ (S : Sg), Fm W S0 S → Kf W S0 (F_W_factor S)) : ∀ (n : Nat) (x1 : Int) (S : Sg), Fm W S0 S → Kf W S0 (zf_W_term_5 r0 F_W_factor n x1 S) := by
  intro n
  induction n with
  | zero => intro x1 S h0; exact Kf.none
  | succ n ih =>
    intro x1 S h0
    rw [zf_W_term_5]
    refine Kf.ck ?_
    refine Kf.ck ?_
    refine Kf.ite ?_ ?_
    · skip
      refine Kf.put h0 (hW _ _ _ _ ⟨rfl, rfl, rfl, rfl⟩) (fun S5 h1 => ?_)
      refine Kf.bd (hF_W_factor _ h1) (fun a6 S7 h2 => ?_)
      refine Kf.lt (fun v8 => ?_)
      exact ih _ _ h2
    · skip
      refine Kf.ck ?_
      exact Kf.some h0
theorem zk_W_term_B {W : Nat → Int → Int → Int → Prop} {S0 : Sg} {r0 : Int} (hW : ∀ g r k i, zr_W_term r0 g r k i → W g r k i) {F_W_factor : Sg → Option (Int × Sg)} (hF_W_factor : ∀ (S : Sg), Fm W S0 S → Kf W S0 (F_W_factor S)) : ∀ (S : Sg), Fm W S0 S → Kf W S0 (zf_W_term_B r0 F_W_factor S) := by
  intro S h0
  unfold zf_W_term_B
  refine Kf.bd (hF_W_factor _ h0) (fun a1 S2 h1 => ?_)
  exact (zk_W_term_5 (r0 := r0) hW hF_W_factor) 4096 _ _ h1
def zr_W_expr (r0 : Int) (g : Nat) (r k i : Int) : Prop := (g = 5 ∧ r = r0 ∧ k = 0 ∧ i = 48)
theorem zk_W_expr_5 {W : Nat → Int → Int → Int → Prop} {S0 : Sg} {r0 : Int} (hW : ∀ g r k i, zr_W_expr r0 g r k i → W g r k i) {F_W_term : Sg → Option (Int × Sg)} (hF_W_term : ∀ (S : Sg), Fm W S0 S → Kf W S0 (F_W_term S)) : ∀ (n : Nat) (x1 : Int) (S : Sg), Fm W S0 S → Kf W S0 (zf_W_expr_5 r0 F_W_term n x1 S) := by
  intro n
  induction n with
  | zero => intro x1 S h0; exact Kf.none
  | succ n ih =>
    intro x1 S h0
    rw [zf_W_expr_5]
    refine Kf.ck ?_
    refine Kf.ck ?_
    refine Kf.ite ?_ ?_
    · skip
      refine Kf.put h0 (hW _ _ _ _ ⟨rfl, rfl, rfl, rfl⟩) (fun S5 h1 => ?_)
      refine Kf.bd (hF_W_term _ h1) (fun a6 S7 h2 => ?_)
      refine Kf.lt (fun v8 => ?_)
      exact ih _ _ h2
    · skip
      refine Kf.ck ?_
      exact Kf.some h0
theorem zk_W_expr_B {W : Nat → Int → Int → Int → Prop} {S0 : Sg} {r0 : Int} (hW : ∀ g r k i, zr_W_expr r0 g r k i → W g r k i) {F_W_term : Sg → Option (Int × Sg)} (hF_W_term : ∀ (S : Sg), Fm W S0 S → Kf W S0 (F_W_term S)) : ∀ (S : Sg), Fm W S0 S → Kf W S0 (zf_W_expr_B r0 F_W_term S) := by
  intro S h0
  unfold zf_W_expr_B
  refine Kf.bd (hF_W_term _ h0) (fun a1 S2 h1 => ?_)
  exact (zk_W_expr_5 (r0 := r0) hW hF_W_term) 4096 _ _ h1
theorem zk_W_factor_D {W : Nat → Int → Int → Int → Prop} {S0 : Sg} {r0 : Int} (hW : ∀ g r k i, zr_W_factor r0 g r k i → W g r k i) : ∀ (n : Nat) (S : Sg), Fm W S0 S → Kf W S0 (zf_W_factor_D r0 n S) := by
  intro n
  induction n with
  | zero => intro S h0; exact Kf.none
  | succ n ih =>
    intro S h0
    rw [zf_W_factor_D]
    exact (zk_W_factor_B (r0 := r0) hW ih (zk_W_expr_B (r0 := r0) (fun g r k i h => hW g r k i ⟨h.1, h.2.1, h.2.2.1, h.2.2.2⟩) (zk_W_term_B (r0 := r0) (fun g r k i h => hW g r k i ⟨h.1, h.2.1, h.2.2.1, h.2.2.2⟩) ih))) _ h0
theorem zk_W_factor {W : Nat → Int → Int → Int → Prop} {S0 : Sg} {r0 : Int} (hW : ∀ g r k i, zr_W_factor r0 g r k i → W g r k i) : ∀ (S : Sg), Fm W S0 S → Kf W S0 (zf_W_factor r0 S) := by
  intro S h0
  unfold zf_W_factor
  exact (zk_W_factor_D (r0 := r0) hW) 128 _ h0
theorem zk_W_term {W : Nat → Int → Int → Int → Prop} {S0 : Sg} {r0 : Int} (hW : ∀ g r k i, zr_W_term r0 g r k i → W g r k i) : ∀ (S : Sg), Fm W S0 S → Kf W S0 (zf_W_term r0 S) := by
  intro S h0
  unfold zf_W_term
  exact (zk_W_term_B (r0 := r0) hW (zk_W_factor_D (r0 := r0) (fun g r k i h => hW g r k i ⟨h.1, h.2.1, h.2.2.1, h.2.2.2⟩) 128)) _ h0
theorem zk_W_expr {W : Nat → Int → Int → Int → Prop} {S0 : Sg} {r0 : Int} (hW : ∀ g r k i, zr_W_expr r0 g r k i → W g r k i) : ∀ (S : Sg), Fm W S0 S → Kf W S0 (zf_W_expr r0 S) := by
  intro S h0
  unfold zf_W_expr
  exact (zk_W_expr_B (r0 := r0) hW (zk_W_term_B (r0 := r0) (fun g r k i h => hW g r k i ⟨h.1, h.2.1, h.2.2.1, h.2.2.2⟩) (zk_W_factor_D (r0 := r0) (fun g r k i h => hW g r k i ⟨h.1, h.2.1, h.2.2.1, h.2.2.2⟩) 128))) _ h0
def zr_W_holds (r0 : Int) (g : Nat) (r k i : Int) : Prop := (g = 5 ∧ r = r0 ∧ k = 0 ∧ i = 47) ∨ (g = 5 ∧ r = r0 ∧ k = 0 ∧ i = 48) ∨ (g = 5 ∧ r = r0 ∧ k = 0 ∧ i = 49) ∨ (g = 5 ∧ r = r0 ∧ k = 35)
theorem zk_W_holds {W : Nat → Int → Int → Int → Prop} {S0 : Sg} {r0 : Int} (hW : ∀ g r k i, zr_W_holds r0 g r k i → W g r k i) : ∀ (x1 : Int) (x2 : Int) (S : Sg), Fm W S0 S → Kf W S0 (zf_W_holds r0 x1 x2 S) := by
  intro x1 x2 S h0
  unfold zf_W_holds
  refine Kf.ck ?_
  refine Kf.ck ?_
  refine Kf.cp h0 (fun j => hW _ _ _ j (Or.inr (Or.inr (Or.inr ⟨rfl, rfl, rfl⟩)))) (fun S3 h1 => ?_)
  refine Kf.ck ?_
  refine Kf.put h1 (hW _ _ _ _ (Or.inr (Or.inr (Or.inr ⟨rfl, rfl, rfl⟩)))) (fun S5 h2 => ?_)
  refine Kf.put h2 (hW _ _ _ _ (Or.inl ⟨rfl, rfl, rfl, rfl⟩)) (fun S6 h3 => ?_)
  refine Kf.put h3 (hW _ _ _ _ (Or.inr (Or.inl ⟨rfl, rfl, rfl, rfl⟩))) (fun S7 h4 => ?_)
  refine Kf.put h4 (hW _ _ _ _ (Or.inr (Or.inr (Or.inl ⟨rfl, rfl, rfl, rfl⟩)))) (fun S8 h5 => ?_)
  refine Kf.bd ((zk_W_expr (r0 := (r0)) (fun g r k i h => hW g r k i (Or.inr (Or.inl ⟨h.1, h.2.1, h.2.2.1, h.2.2.2⟩)))) _ h5) (fun a9 S10 h6 => ?_)
  refine Kf.ck ?_
  exact Kf.some h6
def zr_W_may (r0 : Int) (g : Nat) (r k i : Int) : Prop := (g = 5 ∧ r = r0 ∧ k = 0 ∧ i = 47) ∨ (g = 5 ∧ r = r0 ∧ k = 0 ∧ i = 48) ∨ (g = 5 ∧ r = r0 ∧ k = 0 ∧ i = 49) ∨ (g = 5 ∧ r = r0 ∧ k = 35)
theorem zk_W_may {W : Nat → Int → Int → Int → Prop} {S0 : Sg} {r0 : Int} (hW : ∀ g r k i, zr_W_may r0 g r k i → W g r k i) : ∀ (x1 : Int) (x2 : Int) (S : Sg), Fm W S0 S → Kf W S0 (zf_W_may r0 x1 x2 S) := by
  intro x1 x2 S h0
  unfold zf_W_may
  refine Kf.bd ((zk_W_force (r0 := (r0)) (fun _ _ _ _ h => h.elim)) _ _ _ h0) (fun a1 S2 h1 => ?_)
  refine Kf.ite ?_ ?_
  · skip
    refine Kf.ite ?_ ?_
    · skip
      refine Kf.bd ((zk_W_age (r0 := (r0)) (fun _ _ _ _ h => h.elim)) _ _ h1) (fun a6 S7 h2 => ?_)
      refine Kf.ite ?_ ?_
      · skip
        exact Kf.some h2
      · skip
        exact Kf.some h2
    · skip
      refine Kf.ite ?_ ?_
      · skip
        exact Kf.some h1
      · skip
        exact Kf.some h1
  · skip
    refine Kf.bd ((zk_W_holds (r0 := (r0)) (fun g r k i h => hW g r k i (Or.elim h (fun h => (Or.inl ⟨h.1, h.2.1, h.2.2.1, h.2.2.2⟩)) (fun h => (Or.elim h (fun h => (Or.inr (Or.inl ⟨h.1, h.2.1, h.2.2.1, h.2.2.2⟩))) (fun h => (Or.elim h (fun h => (Or.inr (Or.inr (Or.inl ⟨h.1, h.2.1, h.2.2.1, h.2.2.2⟩)))) (fun h => (Or.inr (Or.inr (Or.inr ⟨h.1, h.2.1, h.2.2⟩))))))))))) _ _ _ h1) (fun a9 S10 h3 => ?_)
    refine Kf.ck ?_
    exact Kf.some h3
def zr_W_votersNow (r0 : Int) (g : Nat) (r k i : Int) : Prop := (g = 5 ∧ r = r0 ∧ k = 0 ∧ i = 47) ∨ (g = 5 ∧ r = r0 ∧ k = 0 ∧ i = 48) ∨ (g = 5 ∧ r = r0 ∧ k = 0 ∧ i = 49) ∨ (g = 5 ∧ r = r0 ∧ k = 35)
theorem zk_W_votersNow_44 {W : Nat → Int → Int → Int → Prop} {S0 : Sg} {r0 : Int} (hW : ∀ g r k i, zr_W_votersNow r0 g r k i → W g r k i) {q4 : Int → Int → Sg → Option (Int × Sg)} (hq4 : ∀ (x0 x1 : Int) (S : Sg), Fm W S0 S → Kf W S0 (q4 x0 x1 S)) : ∀ (x2 : Int) (xt0 : Int) (xt1 : Int) (S : Sg), Fm W S0 S → Kf W S0 (zf_W_votersNow_44 r0 q4 x2 xt0 xt1 S) := by
  intro x2 xt0 xt1 S h0
  unfold zf_W_votersNow_44
  refine Kf.lt (fun v1 => ?_)
  refine Kf.lt (fun v2 => ?_)
  exact hq4 _ _ _ h0
theorem zk_W_votersNow_43 {W : Nat → Int → Int → Int → Prop} {S0 : Sg} {r0 : Int} (hW : ∀ g r k i, zr_W_votersNow r0 g r k i → W g r k i) {q4 : Int → Int → Sg → Option (Int × Sg)} (hq4 : ∀ (x0 x1 : Int) (S : Sg), Fm W S0 S → Kf W S0 (q4 x0 x1 S)) : ∀ (x2 : Int) (xt0 : Int) (S : Sg), Fm W S0 S → Kf W S0 (zf_W_votersNow_43 r0 q4 x2 xt0 S) := by
  intro x2 xt0 S h0
  unfold zf_W_votersNow_43
  exact (zk_W_votersNow_44 (r0 := r0) hW hq4) _ _ _ _ h0
theorem zk_W_votersNow_4 {W : Nat → Int → Int → Int → Prop} {S0 : Sg} {r0 : Int} (hW : ∀ g r k i, zr_W_votersNow r0 g r k i → W g r k i) : ∀ (n : Nat) (x1 x2 : Int) (S : Sg), Fm W S0 S → Kf W S0 (zf_W_votersNow_4 r0 n x1 x2 S) := by
  intro n
  induction n with
  | zero => intro x1 x2 S h0; exact Kf.none
  | succ n ih =>
    intro x1 x2 S h0
    rw [zf_W_votersNow_4]
    refine Kf.ite ?_ ?_
    · skip
      exact Kf.some h0
    · skip
      refine Kf.bd ((zk_W_here (r0 := (r0)) (fun _ _ _ _ h => h.elim)) _ _ h0) (fun a2 S3 h1 => ?_)
      refine Kf.ite ?_ ?_
      · skip
        exact (zk_W_votersNow_43 (r0 := r0) hW ih) _ _ _ h1
      · skip
        refine Kf.bd ((zk_W_kind (r0 := (r0)) (fun _ _ _ _ h => h.elim)) _ _ h1) (fun a5 S6 h2 => ?_)
        refine Kf.ite ?_ ?_
        · skip
          exact (zk_W_votersNow_43 (r0 := r0) hW ih) _ _ _ h2
        · skip
          refine Kf.bd ((zk_W_may (r0 := (r0)) (fun g r k i h => hW g r k i (Or.elim h (fun h => (Or.inl ⟨h.1, h.2.1, h.2.2.1, h.2.2.2⟩)) (fun h => (Or.elim h (fun h => (Or.inr (Or.inl ⟨h.1, h.2.1, h.2.2.1, h.2.2.2⟩))) (fun h => (Or.elim h (fun h => (Or.inr (Or.inr (Or.inl ⟨h.1, h.2.1, h.2.2.1, h.2.2.2⟩)))) (fun h => (Or.inr (Or.inr (Or.inr ⟨h.1, h.2.1, h.2.2⟩))))))))))) _ _ _ h2) (fun a8 S9 h3 => ?_)
          refine Kf.ite ?_ ?_
          · skip
            exact (zk_W_votersNow_43 (r0 := r0) hW ih) _ _ _ h3
          · skip
            exact (zk_W_votersNow_44 (r0 := r0) hW ih) _ _ _ _ h3
theorem zk_W_votersNow {W : Nat → Int → Int → Int → Prop} {S0 : Sg} {r0 : Int} (hW : ∀ g r k i, zr_W_votersNow r0 g r k i → W g r k i) : ∀ (S : Sg), Fm W S0 S → Kf W S0 (zf_W_votersNow r0 S) := by
  intro S h0
  unfold zf_W_votersNow
  exact (zk_W_votersNow_4 (r0 := r0) hW) 4096 _ _ _ h0
def zr_M_vote (g : Nat) (r k i : Int) : Prop := (g = 5 ∧ r = 0 ∧ k = 0 ∧ i = 16) ∨ (g = 5 ∧ r = 0 ∧ k = 0 ∧ i = 47) ∨ (g = 5 ∧ r = 0 ∧ k = 0 ∧ i = 48) ∨ (g = 5 ∧ r = 0 ∧ k = 0 ∧ i = 49) ∨ (g = 5 ∧ r = 0 ∧ k = 14) ∨ (g = 5 ∧ r = 0 ∧ k = 15) ∨ (g = 5 ∧ r = 0 ∧ k = 16) ∨ (g = 5 ∧ r = 0 ∧ k = 17) ∨ (g = 5 ∧ r = 0 ∧ k = 18) ∨ (g = 5 ∧ r = 0 ∧ k = 19) ∨ (g = 5 ∧ r = 0 ∧ k = 20) ∨ (g = 5 ∧ r = 0 ∧ k = 35) ∨ (g = 6 ∧ r = 0) ∨ (g = 9 ∧ r = 0 ∧ k = 0 ∧ i = 10) ∨ (g = 9 ∧ r = 0 ∧ k = 0 ∧ i = 11) ∨ (g = 9 ∧ r = 0 ∧ k = 0 ∧ i = 12) ∨ (g = 9 ∧ r = 0 ∧ k = 0 ∧ i = 13) ∨ (g = 9 ∧ r = 0 ∧ k = 0 ∧ i = 14) ∨ (g = 9 ∧ r = 0 ∧ k = 0 ∧ i = 4)
theorem zk_M_vote {W : Nat → Int → Int → Int → Prop} {S0 : Sg} (hW : ∀ g r k i, zr_M_vote g r k i → W g r k i) : ∀ (x1 : Int) (x2 : Int) (S : Sg), Fm W S0 S → Kf W S0 (zf_M_vote x1 x2 S) := by
  intro x1 x2 S h0
  unfold zf_M_vote
  refine Kf.put h0 (hW _ _ _ _ (Or.inr (Or.inr (Or.inr (Or.inr (Or.inr (Or.inr (Or.inr (Or.inr (Or.inr (Or.inr (Or.inr (Or.inr (Or.inr (Or.inr (Or.inr (Or.inr (Or.inr (Or.inr ⟨rfl, rfl, rfl, rfl⟩))))))))))))))))))) (fun S1 h1 => ?_)
  refine Kf.bd ((zk_W_votersNow (r0 := (0)) (fun g r k i h => hW g r k i (Or.elim h (fun h => (Or.inr (Or.inl ⟨h.1, h.2.1, h.2.2.1, h.2.2.2⟩))) (fun h => (Or.elim h (fun h => (Or.inr (Or.inr (Or.inl ⟨h.1, h.2.1, h.2.2.1, h.2.2.2⟩)))) (fun h => (Or.elim h (fun h => (Or.inr (Or.inr (Or.inr (Or.inl ⟨h.1, h.2.1, h.2.2.1, h.2.2.2⟩))))) (fun h => (Or.inr (Or.inr (Or.inr (Or.inr (Or.inr (Or.inr (Or.inr (Or.inr (Or.inr (Or.inr (Or.inr (Or.inl ⟨h.1, h.2.1, h.2.2⟩)))))))))))))))))))) _ h1) (fun a2 S3 h2 => ?_)
  refine Kf.bd ((zk_M_isShelf (fun _ _ _ _ h => h.elim)) _ _ h2) (fun a4 S5 h3 => ?_)
  refine Kf.ite ?_ ?_
  · skip
    exact Kf.some h3
  · skip
    refine Kf.bd ((zk_M_in (fun _ _ _ _ h => h.elim)) _ _ _ _ h3) (fun a7 S8 h4 => ?_)
    refine Kf.ite ?_ ?_
    · skip
      exact Kf.some h4
    · skip
      refine Kf.bd ((zk_M_noBytes (fun _ _ _ _ h => h.elim)) _ _ h4) (fun a10 S11 h5 => ?_)
      refine Kf.ite ?_ ?_
      · skip
        refine Kf.bd ((zk_M_faultOf (fun g r k i h => hW g r k i (Or.elim h (fun h => (Or.inr (Or.inr (Or.inr (Or.inr (Or.inr (Or.inr (Or.inr (Or.inr (Or.inr (Or.inr (Or.inr (Or.inr (Or.inr (Or.inl ⟨h.1, h.2.1, h.2.2.1, h.2.2.2⟩))))))))))))))) (fun h => (Or.elim h (fun h => (Or.inr (Or.inr (Or.inr (Or.inr (Or.inr (Or.inr (Or.inr (Or.inr (Or.inr (Or.inr (Or.inr (Or.inr (Or.inr (Or.inr (Or.inl ⟨h.1, h.2.1, h.2.2.1, h.2.2.2⟩)))))))))))))))) (fun h => (Or.elim h (fun h => (Or.inr (Or.inr (Or.inr (Or.inr (Or.inr (Or.inr (Or.inr (Or.inr (Or.inr (Or.inr (Or.inr (Or.inr (Or.inr (Or.inr (Or.inr (Or.inl ⟨h.1, h.2.1, h.2.2.1, h.2.2.2⟩))))))))))))))))) (fun h => (Or.elim h (fun h => (Or.inr (Or.inr (Or.inr (Or.inr (Or.inr (Or.inr (Or.inr (Or.inr (Or.inr (Or.inr (Or.inr (Or.inr (Or.inr (Or.inr (Or.inr (Or.inr (Or.inl ⟨h.1, h.2.1, h.2.2.1, h.2.2.2⟩)))))))))))))))))) (fun h => (Or.inr (Or.inr (Or.inr (Or.inr (Or.inr (Or.inr (Or.inr (Or.inr (Or.inr (Or.inr (Or.inr (Or.inr (Or.inr (Or.inr (Or.inr (Or.inr (Or.inr (Or.inl ⟨h.1, h.2.1, h.2.2.1, h.2.2.2⟩)))))))))))))))))))))))))))) _ _ h5) (fun a13 S14 h6 => ?_)
        refine Kf.ite ?_ ?_
        · skip
          refine Kf.ite ?_ ?_
          · skip
            exact Kf.some h6
          · skip
            refine Kf.ite ?_ ?_
            · skip
              refine Kf.lt (fun v18 => ?_)
              refine Kf.ck ?_
              refine Kf.ck ?_
              refine Kf.ck ?_
              refine Kf.cp h6 (fun j => hW _ _ _ j (Or.inr (Or.inr (Or.inr (Or.inr (Or.inr (Or.inr (Or.inr (Or.inr (Or.inr (Or.inr (Or.inr (Or.inr (Or.inl ⟨rfl, rfl⟩)))))))))))))) (fun S22 h8 => ?_)
              refine Kf.put h8 (hW _ _ _ _ (Or.inr (Or.inr (Or.inr (Or.inr (Or.inl ⟨rfl, rfl, rfl⟩)))))) (fun S23 h9 => ?_)
              refine Kf.put h9 (hW _ _ _ _ (Or.inr (Or.inr (Or.inr (Or.inr (Or.inr (Or.inl ⟨rfl, rfl, rfl⟩))))))) (fun S24 h10 => ?_)
              refine Kf.put h10 (hW _ _ _ _ (Or.inr (Or.inr (Or.inr (Or.inr (Or.inr (Or.inr (Or.inl ⟨rfl, rfl, rfl⟩)))))))) (fun S25 h11 => ?_)
              refine Kf.put h11 (hW _ _ _ _ (Or.inr (Or.inr (Or.inr (Or.inr (Or.inr (Or.inr (Or.inr (Or.inl ⟨rfl, rfl, rfl⟩))))))))) (fun S26 h12 => ?_)
              refine Kf.bd ((zk_W_force (r0 := (0)) (fun _ _ _ _ h => h.elim)) _ _ _ h12) (fun a27 S28 h13 => ?_)
              refine Kf.put h13 (hW _ _ _ _ (Or.inr (Or.inr (Or.inr (Or.inr (Or.inr (Or.inr (Or.inr (Or.inr (Or.inl ⟨rfl, rfl, rfl⟩)))))))))) (fun S29 h14 => ?_)
              refine Kf.put h14 (hW _ _ _ _ (Or.inr (Or.inr (Or.inr (Or.inr (Or.inr (Or.inr (Or.inr (Or.inr (Or.inr (Or.inl ⟨rfl, rfl, rfl⟩))))))))))) (fun S30 h15 => ?_)
              refine Kf.put h15 (hW _ _ _ _ (Or.inr (Or.inr (Or.inr (Or.inr (Or.inr (Or.inr (Or.inr (Or.inr (Or.inr (Or.inr (Or.inl ⟨rfl, rfl, rfl⟩)))))))))))) (fun S31 h16 => ?_)
              refine Kf.put h16 (hW _ _ _ _ (Or.inl ⟨rfl, rfl, rfl, rfl⟩)) (fun S32 h17 => ?_)
              exact Kf.some h17
            · skip
              exact Kf.some h6
        · skip
          exact Kf.some h6
      · skip
        refine Kf.bd ((zk_M_noBytes (fun _ _ _ _ h => h.elim)) _ _ h5) (fun a34 S35 h18 => ?_)
        exact Kf.some h18
def zr_M_isLaw (g : Nat) (r k i : Int) : Prop := False
theorem zk_M_isLaw {W : Nat → Int → Int → Int → Prop} {S0 : Sg} (hW : ∀ g r k i, zr_M_isLaw g r k i → W g r k i) : ∀ (x1 : Int) (S : Sg), Fm W S0 S → Kf W S0 (zf_M_isLaw x1 S) := by
  intro x1 S h0
  unfold zf_M_isLaw
  refine Kf.bd ((zk_M_in (fun _ _ _ _ h => h.elim)) _ _ _ _ h0) (fun a1 S2 h1 => ?_)
  refine Kf.ck ?_
  exact Kf.some h1
def zr_M_repeal (g : Nat) (r k i : Int) : Prop := (g = 5 ∧ r = 0 ∧ k = 20) ∨ (g = 9 ∧ r = 0 ∧ k = 0 ∧ i = 4)
theorem zk_M_repeal {W : Nat → Int → Int → Int → Prop} {S0 : Sg} (hW : ∀ g r k i, zr_M_repeal g r k i → W g r k i) : ∀ (x1 : Int) (S : Sg), Fm W S0 S → Kf W S0 (zf_M_repeal x1 S) := by
  intro x1 S h0
  unfold zf_M_repeal
  refine Kf.put h0 (hW _ _ _ _ (Or.inr ⟨rfl, rfl, rfl, rfl⟩)) (fun S1 h1 => ?_)
  refine Kf.bd ((zk_M_isLaw (fun _ _ _ _ h => h.elim)) _ _ h1) (fun a2 S3 h2 => ?_)
  refine Kf.ite ?_ ?_
  · skip
    exact Kf.some h2
  · skip
    refine Kf.ck ?_
    refine Kf.ite ?_ ?_
    · skip
      exact Kf.some h2
    · skip
      refine Kf.ite ?_ ?_
      · skip
        refine Kf.put h2 (hW _ _ _ _ (Or.inl ⟨rfl, rfl, rfl⟩)) (fun S8 h3 => ?_)
        exact Kf.some h3
      · skip
        exact Kf.some h2
def zr_M_voided (g : Nat) (r k i : Int) : Prop := (g = 5 ∧ r = 0 ∧ k = 19)
theorem zk_M_voided_63 {W : Nat → Int → Int → Int → Prop} {S0 : Sg} (hW : ∀ g r k i, zr_M_voided g r k i → W g r k i) {F_M_voided : Int → Sg → Option (Int × Sg)} (hF_M_voided : ∀ (x0 : Int) (S : Sg), Fm W S0 S → Kf W S0 (F_M_voided x0 S)) {q29 : Int → Int → Int → Sg → Option (Int × Sg)} (hq29 : ∀ (x0 x1 x2 : Int) (S : Sg), Fm W S0 S → Kf W S0 (q29 x0 x1 x2 S)) : ∀ (x1 : Int) (x3 : Int) (xt0 : Int) (xt1 : Int) (S : Sg), Fm W S0 S → Kf W S0 (zf_M_voided_63 F_M_voided q29 x1 x3 xt0 xt1 S) := by
  intro x1 x3 xt0 xt1 S h0
  unfold zf_M_voided_63
  refine Kf.lt (fun v1 => ?_)
  refine Kf.lt (fun v2 => ?_)
  exact hq29 _ _ _ _ h0
theorem zk_M_voided_29 {W : Nat → Int → Int → Int → Prop} {S0 : Sg} (hW : ∀ g r k i, zr_M_voided g r k i → W g r k i) {F_M_voided : Int → Sg → Option (Int × Sg)} (hF_M_voided : ∀ (x0 : Int) (S : Sg), Fm W S0 S → Kf W S0 (F_M_voided x0 S)) : ∀ (n : Nat) (x1 x2 x3 : Int) (S : Sg), Fm W S0 S → Kf W S0 (zf_M_voided_29 F_M_voided n x1 x2 x3 S) := by
  intro n
  induction n with
  | zero => intro x1 x2 x3 S h0; exact Kf.none
  | succ n ih =>
    intro x1 x2 x3 S h0
    rw [zf_M_voided_29]
    refine Kf.ite ?_ ?_
    · skip
      exact Kf.some h0
    · skip
      refine Kf.ck ?_
      refine Kf.ite ?_ ?_
      · skip
        refine Kf.bd (hF_M_voided _ _ h0) (fun a4 S5 h1 => ?_)
        exact (zk_M_voided_63 hW hF_M_voided ih) _ _ _ _ _ h1
      · skip
        exact (zk_M_voided_63 hW hF_M_voided ih) _ _ _ _ _ h0
theorem zk_M_voided_B {W : Nat → Int → Int → Int → Prop} {S0 : Sg} (hW : ∀ g r k i, zr_M_voided g r k i → W g r k i) {F_M_voided : Int → Sg → Option (Int × Sg)} (hF_M_voided : ∀ (x0 : Int) (S : Sg), Fm W S0 S → Kf W S0 (F_M_voided x0 S)) : ∀ (x1 : Int) (S : Sg), Fm W S0 S → Kf W S0 (zf_M_voided_B F_M_voided x1 S) := by
  intro x1 S h0
  unfold zf_M_voided_B
  refine Kf.ck ?_
  refine Kf.ite ?_ ?_
  · skip
    exact Kf.some h0
  · skip
    refine Kf.put h0 (hW _ _ _ _ ⟨rfl, rfl, rfl⟩) (fun S3 h1 => ?_)
    exact (zk_M_voided_29 hW hF_M_voided) 4096 _ _ _ _ h1
theorem zk_M_voided_D {W : Nat → Int → Int → Int → Prop} {S0 : Sg} (hW : ∀ g r k i, zr_M_voided g r k i → W g r k i) : ∀ (n : Nat) (x1 : Int) (S : Sg), Fm W S0 S → Kf W S0 (zf_M_voided_D n x1 S) := by
  intro n
  induction n with
  | zero => intro x1 S h0; exact Kf.none
  | succ n ih =>
    intro x1 S h0
    rw [zf_M_voided_D]
    exact (zk_M_voided_B hW ih) _ _ h0
theorem zk_M_voided {W : Nat → Int → Int → Int → Prop} {S0 : Sg} (hW : ∀ g r k i, zr_M_voided g r k i → W g r k i) : ∀ (x1 : Int) (S : Sg), Fm W S0 S → Kf W S0 (zf_M_voided x1 S) := by
  intro x1 S h0
  unfold zf_M_voided
  exact (zk_M_voided_D hW) 16 _ _ h0
def zr_M_found (g : Nat) (r k i : Int) : Prop := (g = 5 ∧ r = 0 ∧ k = 16) ∨ (g = 5 ∧ r = 0 ∧ k = 19) ∨ (g = 9 ∧ r = 0 ∧ k = 0 ∧ i = 4)
theorem zk_M_found {W : Nat → Int → Int → Int → Prop} {S0 : Sg} (hW : ∀ g r k i, zr_M_found g r k i → W g r k i) : ∀ (x1 : Int) (x2 : Int) (S : Sg), Fm W S0 S → Kf W S0 (zf_M_found x1 x2 S) := by
  intro x1 x2 S h0
  unfold zf_M_found
  refine Kf.put h0 (hW _ _ _ _ (Or.inr (Or.inr ⟨rfl, rfl, rfl, rfl⟩))) (fun S1 h1 => ?_)
  refine Kf.bd ((zk_M_isLaw (fun _ _ _ _ h => h.elim)) _ _ h1) (fun a2 S3 h2 => ?_)
  refine Kf.ite ?_ ?_
  · skip
    exact Kf.some h2
  · skip
    refine Kf.ck ?_
    refine Kf.bd ((zk_M_in (fun _ _ _ _ h => h.elim)) _ _ _ _ h2) (fun a6 S7 h3 => ?_)
    refine Kf.ite ?_ ?_
    · skip
      exact Kf.some h3
    · skip
      refine Kf.ite ?_ ?_
      · skip
        exact Kf.some h3
      · skip
        refine Kf.put h3 (hW _ _ _ _ (Or.inl ⟨rfl, rfl, rfl⟩)) (fun S10 h4 => ?_)
        refine Kf.ite ?_ ?_
        · skip
          refine Kf.bd ((zk_M_voided (fun g r k i h => hW g r k i (Or.inr (Or.inl ⟨h.1, h.2.1, h.2.2⟩)))) _ _ h4) (fun a12 S13 h5 => ?_)
          exact Kf.some h5
        · skip
          exact Kf.some h4
def zr_M_force (g : Nat) (r k i : Int) : Prop := (g = 9 ∧ r = 0 ∧ k = 0 ∧ i = 4)
theorem zk_M_force {W : Nat → Int → Int → Int → Prop} {S0 : Sg} (hW : ∀ g r k i, zr_M_force g r k i → W g r k i) : ∀ (x1 : Int) (x2 : Int) (S : Sg), Fm W S0 S → Kf W S0 (zf_M_force x1 x2 S) := by
  intro x1 x2 S h0
  unfold zf_M_force
  refine Kf.put h0 (hW _ _ _ _ ⟨rfl, rfl, rfl, rfl⟩) (fun S1 h1 => ?_)
  refine Kf.bd ((zk_M_in (fun _ _ _ _ h => h.elim)) _ _ _ _ h1) (fun a2 S3 h2 => ?_)
  refine Kf.ite ?_ ?_
  · skip
    exact Kf.some h2
  · skip
    refine Kf.bd ((zk_M_in (fun _ _ _ _ h => h.elim)) _ _ _ _ h2) (fun a5 S6 h3 => ?_)
    refine Kf.ite ?_ ?_
    · skip
      exact Kf.some h3
    · skip
      refine Kf.bd ((zk_W_force (r0 := (0)) (fun _ _ _ _ h => h.elim)) _ _ _ h3) (fun a8 S9 h4 => ?_)
      exact Kf.some h4
def zr_M_may (g : Nat) (r k i : Int) : Prop := (g = 5 ∧ r = 0 ∧ k = 0 ∧ i = 47) ∨ (g = 5 ∧ r = 0 ∧ k = 0 ∧ i = 48) ∨ (g = 5 ∧ r = 0 ∧ k = 0 ∧ i = 49) ∨ (g = 5 ∧ r = 0 ∧ k = 35) ∨ (g = 9 ∧ r = 0 ∧ k = 0 ∧ i = 4)
theorem zk_M_may {W : Nat → Int → Int → Int → Prop} {S0 : Sg} (hW : ∀ g r k i, zr_M_may g r k i → W g r k i) : ∀ (x1 : Int) (x2 : Int) (S : Sg), Fm W S0 S → Kf W S0 (zf_M_may x1 x2 S) := by
  intro x1 x2 S h0
  unfold zf_M_may
  refine Kf.put h0 (hW _ _ _ _ (Or.inr (Or.inr (Or.inr (Or.inr ⟨rfl, rfl, rfl, rfl⟩))))) (fun S1 h1 => ?_)
  refine Kf.bd ((zk_M_isPerson (fun _ _ _ _ h => h.elim)) _ _ h1) (fun a2 S3 h2 => ?_)
  refine Kf.ite ?_ ?_
  · skip
    exact Kf.some h2
  · skip
    refine Kf.bd ((zk_M_in (fun _ _ _ _ h => h.elim)) _ _ _ _ h2) (fun a5 S6 h3 => ?_)
    refine Kf.ite ?_ ?_
    · skip
      exact Kf.some h3
    · skip
      refine Kf.bd ((zk_W_here (r0 := (0)) (fun _ _ _ _ h => h.elim)) _ _ h3) (fun a8 S9 h4 => ?_)
      refine Kf.ite ?_ ?_
      · skip
        exact Kf.some h4
      · skip
        refine Kf.bd ((zk_W_may (r0 := (0)) (fun g r k i h => hW g r k i (Or.elim h (fun h => (Or.inl ⟨h.1, h.2.1, h.2.2.1, h.2.2.2⟩)) (fun h => (Or.elim h (fun h => (Or.inr (Or.inl ⟨h.1, h.2.1, h.2.2.1, h.2.2.2⟩))) (fun h => (Or.elim h (fun h => (Or.inr (Or.inr (Or.inl ⟨h.1, h.2.1, h.2.2.1, h.2.2.2⟩)))) (fun h => (Or.inr (Or.inr (Or.inr (Or.inl ⟨h.1, h.2.1, h.2.2⟩)))))))))))) _ _ _ h4) (fun a11 S12 h5 => ?_)
        refine Kf.ite ?_ ?_
        · skip
          exact Kf.some h5
        · skip
          exact Kf.some h5
def zr_M_law (g : Nat) (r k i : Int) : Prop := (g = 9 ∧ r = 0 ∧ k = 0 ∧ i = 4)
theorem zk_M_law {W : Nat → Int → Int → Int → Prop} {S0 : Sg} (hW : ∀ g r k i, zr_M_law g r k i → W g r k i) : ∀ (x1 : Int) (x2 : Int) (S : Sg), Fm W S0 S → Kf W S0 (zf_M_law x1 x2 S) := by
  intro x1 x2 S h0
  unfold zf_M_law
  refine Kf.put h0 (hW _ _ _ _ ⟨rfl, rfl, rfl, rfl⟩) (fun S1 h1 => ?_)
  refine Kf.bd ((zk_M_isLaw (fun _ _ _ _ h => h.elim)) _ _ h1) (fun a2 S3 h2 => ?_)
  refine Kf.ite ?_ ?_
  · skip
    exact Kf.some h2
  · skip
    refine Kf.ite ?_ ?_
    · skip
      refine Kf.bd ((zk_W_subject (r0 := (0)) (fun _ _ _ _ h => h.elim)) _ _ h2) (fun a6 S7 h3 => ?_)
      exact Kf.some h3
    · skip
      refine Kf.ite ?_ ?_
      · skip
        refine Kf.ck ?_
        exact Kf.some h2
      · skip
        refine Kf.ite ?_ ?_
        · skip
          refine Kf.ck ?_
          exact Kf.some h2
        · skip
          refine Kf.ite ?_ ?_
          · skip
            refine Kf.ck ?_
            exact Kf.some h2
          · skip
            refine Kf.ite ?_ ?_
            · skip
              refine Kf.ck ?_
              exact Kf.some h2
            · skip
              refine Kf.ite ?_ ?_
              · skip
                refine Kf.ck ?_
                exact Kf.some h2
              · skip
                exact Kf.some h2
def zr_M_post (g : Nat) (r k i : Int) : Prop := (g = 5 ∧ r = 0 ∧ k = 0 ∧ i = 25) ∨ (g = 5 ∧ r = 0 ∧ k = 21) ∨ (g = 5 ∧ r = 0 ∧ k = 22) ∨ (g = 5 ∧ r = 0 ∧ k = 23) ∨ (g = 5 ∧ r = 0 ∧ k = 24) ∨ (g = 9 ∧ r = 0 ∧ k = 0 ∧ i = 4)
theorem zk_M_post {W : Nat → Int → Int → Int → Prop} {S0 : Sg} (hW : ∀ g r k i, zr_M_post g r k i → W g r k i) : ∀ (x1 : Int) (x2 : Int) (x3 : Int) (S : Sg), Fm W S0 S → Kf W S0 (zf_M_post x1 x2 x3 S) := by
  intro x1 x2 x3 S h0
  unfold zf_M_post
  refine Kf.put h0 (hW _ _ _ _ (Or.inr (Or.inr (Or.inr (Or.inr (Or.inr ⟨rfl, rfl, rfl, rfl⟩)))))) (fun S1 h1 => ?_)
  refine Kf.bd ((zk_M_in (fun _ _ _ _ h => h.elim)) _ _ _ _ h1) (fun a2 S3 h2 => ?_)
  refine Kf.ite ?_ ?_
  · skip
    exact Kf.some h2
  · skip
    refine Kf.bd ((zk_M_in (fun _ _ _ _ h => h.elim)) _ _ _ _ h2) (fun a5 S6 h3 => ?_)
    refine Kf.ite ?_ ?_
    · skip
      exact Kf.some h3
    · skip
      refine Kf.bd ((zk_M_in (fun _ _ _ _ h => h.elim)) _ _ _ _ h3) (fun a8 S9 h4 => ?_)
      refine Kf.ite ?_ ?_
      · skip
        exact Kf.some h4
      · skip
        refine Kf.ite ?_ ?_
        · skip
          exact Kf.some h4
        · skip
          refine Kf.put h4 (hW _ _ _ _ (Or.inl ⟨rfl, rfl, rfl, rfl⟩)) (fun S12 h5 => ?_)
          refine Kf.lt (fun v14 => ?_)
          refine Kf.ck ?_
          refine Kf.put h5 (hW _ _ _ _ (Or.inr (Or.inl ⟨rfl, rfl, rfl⟩))) (fun S16 h7 => ?_)
          refine Kf.put h7 (hW _ _ _ _ (Or.inr (Or.inr (Or.inl ⟨rfl, rfl, rfl⟩)))) (fun S17 h8 => ?_)
          refine Kf.put h8 (hW _ _ _ _ (Or.inr (Or.inr (Or.inr (Or.inl ⟨rfl, rfl, rfl⟩))))) (fun S18 h9 => ?_)
          refine Kf.put h9 (hW _ _ _ _ (Or.inr (Or.inr (Or.inr (Or.inr (Or.inl ⟨rfl, rfl, rfl⟩)))))) (fun S19 h10 => ?_)
          exact Kf.some h10
def zr_M_isPost (g : Nat) (r k i : Int) : Prop := False
theorem zk_M_isPost {W : Nat → Int → Int → Int → Prop} {S0 : Sg} (hW : ∀ g r k i, zr_M_isPost g r k i → W g r k i) : ∀ (x1 : Int) (S : Sg), Fm W S0 S → Kf W S0 (zf_M_isPost x1 S) := by
  intro x1 S h0
  unfold zf_M_isPost
  refine Kf.bd ((zk_M_in (fun _ _ _ _ h => h.elim)) _ _ _ _ h0) (fun a1 S2 h1 => ?_)
  refine Kf.ck ?_
  exact Kf.some h1
def zr_M_open (g : Nat) (r k i : Int) : Prop := (g = 5 ∧ r = 0 ∧ k = 24) ∨ (g = 9 ∧ r = 0 ∧ k = 0 ∧ i = 4)
theorem zk_M_open_51 {W : Nat → Int → Int → Int → Prop} {S0 : Sg} (hW : ∀ g r k i, zr_M_open g r k i → W g r k i) : ∀ (x2 : Int) (x3 : Int) (xt1 : Int) (xt2 : Int) (S : Sg), Fm W S0 S → Kf W S0 (zf_M_open_51 x2 x3 xt1 xt2 S) := by
  intro x2 x3 xt1 xt2 S h0
  unfold zf_M_open_51
  refine Kf.ck ?_
  refine Kf.put h0 (hW _ _ _ _ (Or.inl ⟨rfl, rfl, rfl⟩)) (fun S2 h1 => ?_)
  refine Kf.ite ?_ ?_
  · skip
    exact Kf.some h1
  · skip
    exact Kf.some h1
theorem zk_M_open_33 {W : Nat → Int → Int → Int → Prop} {S0 : Sg} (hW : ∀ g r k i, zr_M_open g r k i → W g r k i) : ∀ (x1 : Int) (x2 : Int) (xt0 : Int) (S : Sg), Fm W S0 S → Kf W S0 (zf_M_open_33 x1 x2 xt0 S) := by
  intro x1 x2 xt0 S h0
  unfold zf_M_open_33
  refine Kf.ite ?_ ?_
  · skip
    exact (zk_M_open_51 hW) _ _ _ _ _ h0
  · skip
    exact (zk_M_open_51 hW) _ _ _ _ _ h0
theorem zk_M_open {W : Nat → Int → Int → Int → Prop} {S0 : Sg} (hW : ∀ g r k i, zr_M_open g r k i → W g r k i) : ∀ (x1 : Int) (x2 : Int) (S : Sg), Fm W S0 S → Kf W S0 (zf_M_open x1 x2 S) := by
  intro x1 x2 S h0
  unfold zf_M_open
  refine Kf.put h0 (hW _ _ _ _ (Or.inr ⟨rfl, rfl, rfl, rfl⟩)) (fun S1 h1 => ?_)
  refine Kf.bd ((zk_M_isPost (fun _ _ _ _ h => h.elim)) _ _ h1) (fun a2 S3 h2 => ?_)
  refine Kf.ite ?_ ?_
  · skip
    exact Kf.some h2
  · skip
    refine Kf.ck ?_
    refine Kf.ite ?_ ?_
    · skip
      exact (zk_M_open_33 hW) _ _ _ _ h2
    · skip
      exact (zk_M_open_33 hW) _ _ _ _ h2
def zr_W_feasible (r0 : Int) (g : Nat) (r k i : Int) : Prop := False
theorem zk_W_feasible_85 {W : Nat → Int → Int → Int → Prop} {S0 : Sg} {r0 : Int} (hW : ∀ g r k i, zr_W_feasible r0 g r k i → W g r k i) {q11 : Int → Int → Int → Sg → Option (Int × Sg)} (hq11 : ∀ (x0 x1 x2 : Int) (S : Sg), Fm W S0 S → Kf W S0 (q11 x0 x1 x2 S)) {q25 : Int → Int → Int → Int → Int → Int → Sg → Option (Int × Sg)} (hq25 : ∀ (x0 x1 x2 x3 x4 x5 : Int) (S : Sg), Fm W S0 S → Kf W S0 (q25 x0 x1 x2 x3 x4 x5 S)) : ∀ (x3 : Int) (x4 : Int) (x5 : Int) (x6 : Int) (x8 : Int) (xt0 : Int) (xt1 : Int) (S : Sg), Fm W S0 S → Kf W S0 (zf_W_feasible_85 r0 q11 q25 x3 x4 x5 x6 x8 xt0 xt1 S) := by
  intro x3 x4 x5 x6 x8 xt0 xt1 S h0
  unfold zf_W_feasible_85
  refine Kf.lt (fun v1 => ?_)
  refine Kf.lt (fun v2 => ?_)
  exact hq25 _ _ _ _ _ _ _ h0
theorem zk_W_feasible_58 {W : Nat → Int → Int → Int → Prop} {S0 : Sg} {r0 : Int} (hW : ∀ g r k i, zr_W_feasible r0 g r k i → W g r k i) {q11 : Int → Int → Int → Sg → Option (Int × Sg)} (hq11 : ∀ (x0 x1 x2 : Int) (S : Sg), Fm W S0 S → Kf W S0 (q11 x0 x1 x2 S)) {q25 : Int → Int → Int → Int → Int → Int → Sg → Option (Int × Sg)} (hq25 : ∀ (x0 x1 x2 x3 x4 x5 : Int) (S : Sg), Fm W S0 S → Kf W S0 (q25 x0 x1 x2 x3 x4 x5 S)) : ∀ (x3 : Int) (x4 : Int) (x5 : Int) (x7 : Int) (x8 : Int) (xt0 : Int) (xt1 : Int) (S : Sg), Fm W S0 S → Kf W S0 (zf_W_feasible_58 r0 q11 q25 x3 x4 x5 x7 x8 xt0 xt1 S) := by
  intro x3 x4 x5 x7 x8 xt0 xt1 S h0
  unfold zf_W_feasible_58
  refine Kf.lt (fun v1 => ?_)
  refine Kf.ite ?_ ?_
  · skip
    refine Kf.ck ?_
    exact (zk_W_feasible_85 (r0 := r0) hW hq11 hq25) _ _ _ _ _ _ _ _ h0
  · skip
    exact (zk_W_feasible_85 (r0 := r0) hW hq11 hq25) _ _ _ _ _ _ _ _ h0
theorem zk_W_feasible_25 {W : Nat → Int → Int → Int → Prop} {S0 : Sg} {r0 : Int} (hW : ∀ g r k i, zr_W_feasible r0 g r k i → W g r k i) {q11 : Int → Int → Int → Sg → Option (Int × Sg)} (hq11 : ∀ (x0 x1 x2 : Int) (S : Sg), Fm W S0 S → Kf W S0 (q11 x0 x1 x2 S)) : ∀ (n : Nat) (x3 x4 x5 x6 x7 x8 : Int) (S : Sg), Fm W S0 S → Kf W S0 (zf_W_feasible_25 r0 q11 n x3 x4 x5 x6 x7 x8 S) := by
  intro n
  induction n with
  | zero => intro x3 x4 x5 x6 x7 x8 S h0; exact Kf.none
  | succ n ih =>
    intro x3 x4 x5 x6 x7 x8 S h0
    rw [zf_W_feasible_25]
    refine Kf.ite ?_ ?_
    · skip
      refine Kf.bd ((zk_Ji_bitCount (fun _ _ _ _ h => h.elim)) _ _ h0) (fun a2 S3 h1 => ?_)
      refine Kf.ite ?_ ?_
      · skip
        refine Kf.lt (fun v5 => ?_)
        exact hq11 _ _ _ _ h1
      · skip
        exact Kf.some h1
    · skip
      refine Kf.ite ?_ ?_
      · skip
        refine Kf.ck ?_
        exact (zk_W_feasible_58 (r0 := r0) hW hq11 ih) _ _ _ _ _ _ _ _ h0
      · skip
        exact (zk_W_feasible_58 (r0 := r0) hW hq11 ih) _ _ _ _ _ _ _ _ h0
theorem zk_W_feasible_11 {W : Nat → Int → Int → Int → Prop} {S0 : Sg} {r0 : Int} (hW : ∀ g r k i, zr_W_feasible r0 g r k i → W g r k i) : ∀ (n : Nat) (x3 x4 x5 : Int) (S : Sg), Fm W S0 S → Kf W S0 (zf_W_feasible_11 r0 n x3 x4 x5 S) := by
  intro n
  induction n with
  | zero => intro x3 x4 x5 S h0; exact Kf.none
  | succ n ih =>
    intro x3 x4 x5 S h0
    rw [zf_W_feasible_11]
    refine Kf.ite ?_ ?_
    · skip
      exact Kf.some h0
    · skip
      exact (zk_W_feasible_25 (r0 := r0) hW ih) 4096 _ _ _ _ _ _ _ h0
theorem zk_W_feasible {W : Nat → Int → Int → Int → Prop} {S0 : Sg} {r0 : Int} (hW : ∀ g r k i, zr_W_feasible r0 g r k i → W g r k i) : ∀ (x1 : Int) (x2 : Int) (x3 : Int) (S : Sg), Fm W S0 S → Kf W S0 (zf_W_feasible r0 x1 x2 x3 S) := by
  intro x1 x2 x3 S h0
  unfold zf_W_feasible
  refine Kf.lt (fun v1 => ?_)
  exact (zk_W_feasible_11 (r0 := r0) hW) 4096 _ _ _ _ h0
def zr_W_rather (r0 : Int) (g : Nat) (r k i : Int) : Prop := False
theorem zk_W_rather {W : Nat → Int → Int → Int → Prop} {S0 : Sg} {r0 : Int} (hW : ∀ g r k i, zr_W_rather r0 g r k i → W g r k i) : ∀ (x1 : Int) (x2 : Int) (S : Sg), Fm W S0 S → Kf W S0 (zf_W_rather r0 x1 x2 S) := by
  intro x1 x2 S h0
  unfold zf_W_rather
  refine Kf.bd ((zk_Ji_bitCount (fun _ _ _ _ h => h.elim)) _ _ h0) (fun a1 S2 h1 => ?_)
  refine Kf.bd ((zk_Ji_bitCount (fun _ _ _ _ h => h.elim)) _ _ h1) (fun a3 S4 h2 => ?_)
  refine Kf.ite ?_ ?_
  · skip
    refine Kf.lt (fun v6 => ?_)
    refine Kf.ite ?_ ?_
    · skip
      exact Kf.some h2
    · skip
      exact Kf.some h2
  · skip
    refine Kf.bd ((zk_Ji_bitCount (fun _ _ _ _ h => h.elim)) _ _ h2) (fun a8 S9 h4 => ?_)
    refine Kf.bd ((zk_Ji_bitCount (fun _ _ _ _ h => h.elim)) _ _ h4) (fun a10 S11 h5 => ?_)
    refine Kf.ite ?_ ?_
    · skip
      exact Kf.some h5
    · skip
      exact Kf.some h5
def zr_W_bestSet (r0 : Int) (g : Nat) (r k i : Int) : Prop := False
theorem zk_W_bestSet_87 {W : Nat → Int → Int → Int → Prop} {S0 : Sg} {r0 : Int} (hW : ∀ g r k i, zr_W_bestSet r0 g r k i → W g r k i) {q4 : Int → Int → Sg → Option (Int × Sg)} (hq4 : ∀ (x0 x1 : Int) (S : Sg), Fm W S0 S → Kf W S0 (q4 x0 x1 S)) : ∀ (x1 : Int) (x2 : Int) (S : Sg), Fm W S0 S → Kf W S0 (zf_W_bestSet_87 r0 q4 x1 x2 S) := by
  intro x1 x2 S h0
  unfold zf_W_bestSet_87
  refine Kf.lt (fun v1 => ?_)
  exact hq4 _ _ _ h0
theorem zk_W_bestSet_54 {W : Nat → Int → Int → Int → Prop} {S0 : Sg} {r0 : Int} (hW : ∀ g r k i, zr_W_bestSet r0 g r k i → W g r k i) {q4 : Int → Int → Sg → Option (Int × Sg)} (hq4 : ∀ (x0 x1 : Int) (S : Sg), Fm W S0 S → Kf W S0 (q4 x0 x1 S)) {q19 : Int → Int → Int → Int → Sg → Option (Int × Sg)} (hq19 : ∀ (x0 x1 x2 x3 : Int) (S : Sg), Fm W S0 S → Kf W S0 (q19 x0 x1 x2 x3 S)) : ∀ (x1 : Int) (x2 : Int) (x4 : Int) (xt0 : Int) (xt1 : Int) (S : Sg), Fm W S0 S → Kf W S0 (zf_W_bestSet_54 r0 q4 q19 x1 x2 x4 xt0 xt1 S) := by
  intro x1 x2 x4 xt0 xt1 S h0
  unfold zf_W_bestSet_54
  refine Kf.lt (fun v1 => ?_)
  refine Kf.lt (fun v2 => ?_)
  exact hq19 _ _ _ _ _ h0
theorem zk_W_bestSet_49 {W : Nat → Int → Int → Int → Prop} {S0 : Sg} {r0 : Int} (hW : ∀ g r k i, zr_W_bestSet r0 g r k i → W g r k i) {q4 : Int → Int → Sg → Option (Int × Sg)} (hq4 : ∀ (x0 x1 : Int) (S : Sg), Fm W S0 S → Kf W S0 (q4 x0 x1 S)) {q19 : Int → Int → Int → Int → Sg → Option (Int × Sg)} (hq19 : ∀ (x0 x1 x2 x3 : Int) (S : Sg), Fm W S0 S → Kf W S0 (q19 x0 x1 x2 x3 S)) : ∀ (x1 : Int) (x2 : Int) (x4 : Int) (xt0 : Int) (S : Sg), Fm W S0 S → Kf W S0 (zf_W_bestSet_49 r0 q4 q19 x1 x2 x4 xt0 S) := by
  intro x1 x2 x4 xt0 S h0
  unfold zf_W_bestSet_49
  exact (zk_W_bestSet_54 (r0 := r0) hW hq4 hq19) _ _ _ _ _ _ h0
theorem zk_W_bestSet_19 {W : Nat → Int → Int → Int → Prop} {S0 : Sg} {r0 : Int} (hW : ∀ g r k i, zr_W_bestSet r0 g r k i → W g r k i) {q4 : Int → Int → Sg → Option (Int × Sg)} (hq4 : ∀ (x0 x1 : Int) (S : Sg), Fm W S0 S → Kf W S0 (q4 x0 x1 S)) : ∀ (n : Nat) (x1 x2 x3 x4 : Int) (S : Sg), Fm W S0 S → Kf W S0 (zf_W_bestSet_19 r0 q4 n x1 x2 x3 x4 S) := by
  intro n
  induction n with
  | zero => intro x1 x2 x3 x4 S h0; exact Kf.none
  | succ n ih =>
    intro x1 x2 x3 x4 S h0
    rw [zf_W_bestSet_19]
    refine Kf.ite ?_ ?_
    · skip
      refine Kf.ite ?_ ?_
      · skip
        exact (zk_W_bestSet_87 (r0 := r0) hW hq4) _ _ _ h0
      · skip
        refine Kf.bd ((zk_W_rather (r0 := (r0)) (fun _ _ _ _ h => h.elim)) _ _ _ h0) (fun a3 S4 h1 => ?_)
        refine Kf.ite ?_ ?_
        · skip
          exact (zk_W_bestSet_87 (r0 := r0) hW hq4) _ _ _ h1
        · skip
          refine Kf.bd ((zk_W_feasible (r0 := (r0)) (fun _ _ _ _ h => h.elim)) _ _ _ _ h1) (fun a6 S7 h2 => ?_)
          refine Kf.ite ?_ ?_
          · skip
            exact (zk_W_bestSet_87 (r0 := r0) hW hq4) _ _ _ h2
          · skip
            exact (zk_W_bestSet_87 (r0 := r0) hW hq4) _ _ _ h2
    · skip
      refine Kf.ite ?_ ?_
      · skip
        exact (zk_W_bestSet_49 (r0 := r0) hW hq4 ih) _ _ _ _ _ h0
      · skip
        refine Kf.ck ?_
        refine Kf.ite ?_ ?_
        · skip
          exact (zk_W_bestSet_49 (r0 := r0) hW hq4 ih) _ _ _ _ _ h0
        · skip
          exact (zk_W_bestSet_54 (r0 := r0) hW hq4 ih) _ _ _ _ _ _ h0
theorem zk_W_bestSet_4 {W : Nat → Int → Int → Int → Prop} {S0 : Sg} {r0 : Int} (hW : ∀ g r k i, zr_W_bestSet r0 g r k i → W g r k i) : ∀ (n : Nat) (x1 x2 : Int) (S : Sg), Fm W S0 S → Kf W S0 (zf_W_bestSet_4 r0 n x1 x2 S) := by
  intro n
  induction n with
  | zero => intro x1 x2 S h0; exact Kf.none
  | succ n ih =>
    intro x1 x2 S h0
    rw [zf_W_bestSet_4]
    refine Kf.ite ?_ ?_
    · skip
      exact Kf.some h0
    · skip
      exact (zk_W_bestSet_19 (r0 := r0) hW ih) 4096 _ _ _ _ _ h0
theorem zk_W_bestSet {W : Nat → Int → Int → Int → Prop} {S0 : Sg} {r0 : Int} (hW : ∀ g r k i, zr_W_bestSet r0 g r k i → W g r k i) : ∀ (S : Sg), Fm W S0 S → Kf W S0 (zf_W_bestSet r0 S) := by
  intro S h0
  unfold zf_W_bestSet
  exact (zk_W_bestSet_4 (r0 := r0) hW) 4096 _ _ _ h0
def zr_W_isCrew (r0 : Int) (g : Nat) (r k i : Int) : Prop := False
theorem zk_W_isCrew {W : Nat → Int → Int → Int → Prop} {S0 : Sg} {r0 : Int} (hW : ∀ g r k i, zr_W_isCrew r0 g r k i → W g r k i) : ∀ (x1 : Int) (x2 : Int) (x3 : Int) (S : Sg), Fm W S0 S → Kf W S0 (zf_W_isCrew r0 x1 x2 x3 S) := by
  intro x1 x2 x3 S h0
  unfold zf_W_isCrew
  refine Kf.ite ?_ ?_
  · skip
    refine Kf.bd ((zk_Ji_bitCount (fun _ _ _ _ h => h.elim)) _ _ h0) (fun a2 S3 h1 => ?_)
    refine Kf.ck ?_
    refine Kf.ite ?_ ?_
    · skip
      refine Kf.ite ?_ ?_
      · skip
        exact Kf.some h1
      · skip
        exact Kf.some h1
    · skip
      exact Kf.some h1
  · skip
    exact Kf.some h0
def zr_W_byAll (r0 : Int) (g : Nat) (r k i : Int) : Prop := (g = 21 ∧ r = r0 ∧ k = 0) ∨ (g = 5 ∧ r = r0 ∧ k = 37)
theorem zk_W_byAll_140 {W : Nat → Int → Int → Int → Prop} {S0 : Sg} {r0 : Int} (hW : ∀ g r k i, zr_W_byAll r0 g r k i → W g r k i) {q9 : Int → Int → Int → Sg → Option (Int × Sg)} (hq9 : ∀ (x0 x1 x2 : Int) (S : Sg), Fm W S0 S → Kf W S0 (q9 x0 x1 x2 S)) : ∀ (x1 : Int) (x2 : Int) (x3 : Int) (S : Sg), Fm W S0 S → Kf W S0 (zf_W_byAll_140 r0 q9 x1 x2 x3 S) := by
  intro x1 x2 x3 S h0
  unfold zf_W_byAll_140
  refine Kf.lt (fun v1 => ?_)
  exact hq9 _ _ _ _ h0
theorem zk_W_byAll_134 {W : Nat → Int → Int → Int → Prop} {S0 : Sg} {r0 : Int} (hW : ∀ g r k i, zr_W_byAll r0 g r k i → W g r k i) {q9 : Int → Int → Int → Sg → Option (Int × Sg)} (hq9 : ∀ (x0 x1 x2 : Int) (S : Sg), Fm W S0 S → Kf W S0 (q9 x0 x1 x2 S)) {q31 : Int → Int → Int → Int → Sg → Option (Int × Sg)} (hq31 : ∀ (x0 x1 x2 x3 : Int) (S : Sg), Fm W S0 S → Kf W S0 (q31 x0 x1 x2 x3 S)) : ∀ (x1 : Int) (x2 : Int) (x3 : Int) (x4 : Int) (S : Sg), Fm W S0 S → Kf W S0 (zf_W_byAll_134 r0 q9 q31 x1 x2 x3 x4 S) := by
  intro x1 x2 x3 x4 S h0
  unfold zf_W_byAll_134
  refine Kf.lt (fun v1 => ?_)
  exact hq31 _ _ _ _ _ h0
theorem zk_W_byAll_123 {W : Nat → Int → Int → Int → Prop} {S0 : Sg} {r0 : Int} (hW : ∀ g r k i, zr_W_byAll r0 g r k i → W g r k i) {q9 : Int → Int → Int → Sg → Option (Int × Sg)} (hq9 : ∀ (x0 x1 x2 : Int) (S : Sg), Fm W S0 S → Kf W S0 (q9 x0 x1 x2 S)) {q83 : Int → Int → Int → Int → Int → Sg → Option (Int × Sg)} (hq83 : ∀ (x0 x1 x2 x3 x4 : Int) (S : Sg), Fm W S0 S → Kf W S0 (q83 x0 x1 x2 x3 x4 S)) : ∀ (x1 : Int) (x2 : Int) (x3 : Int) (x4 : Int) (x5 : Int) (xt1 : Int) (xt2 : Int) (xt3 : Int) (S : Sg), Fm W S0 S → Kf W S0 (zf_W_byAll_123 r0 q9 q83 x1 x2 x3 x4 x5 xt1 xt2 xt3 S) := by
  intro x1 x2 x3 x4 x5 xt1 xt2 xt3 S h0
  unfold zf_W_byAll_123
  refine Kf.ck ?_
  refine Kf.put h0 (hW _ _ _ _ (Or.inl ⟨rfl, rfl, rfl⟩)) (fun S2 h1 => ?_)
  refine Kf.lt (fun v3 => ?_)
  exact hq83 _ _ _ _ _ _ h1
theorem zk_W_byAll_83 {W : Nat → Int → Int → Int → Prop} {S0 : Sg} {r0 : Int} (hW : ∀ g r k i, zr_W_byAll r0 g r k i → W g r k i) {q9 : Int → Int → Int → Sg → Option (Int × Sg)} (hq9 : ∀ (x0 x1 x2 : Int) (S : Sg), Fm W S0 S → Kf W S0 (q9 x0 x1 x2 S)) : ∀ (n : Nat) (x1 x2 x3 x4 x5 : Int) (S : Sg), Fm W S0 S → Kf W S0 (zf_W_byAll_83 r0 q9 n x1 x2 x3 x4 x5 S) := by
  intro n
  induction n with
  | zero => intro x1 x2 x3 x4 x5 S h0; exact Kf.none
  | succ n ih =>
    intro x1 x2 x3 x4 x5 S h0
    rw [zf_W_byAll_83]
    refine Kf.ite ?_ ?_
    · skip
      exact (zk_W_byAll_140 (r0 := r0) hW hq9) _ _ _ _ h0
    · skip
      refine Kf.ck ?_
      refine Kf.ite ?_ ?_
      · skip
        refine Kf.ck ?_
        exact (zk_W_byAll_123 (r0 := r0) hW hq9 ih) _ _ _ _ _ _ _ _ _ h0
      · skip
        exact (zk_W_byAll_123 (r0 := r0) hW hq9 ih) _ _ _ _ _ _ _ _ _ h0
theorem zk_W_byAll_31 {W : Nat → Int → Int → Int → Prop} {S0 : Sg} {r0 : Int} (hW : ∀ g r k i, zr_W_byAll r0 g r k i → W g r k i) {q9 : Int → Int → Int → Sg → Option (Int × Sg)} (hq9 : ∀ (x0 x1 x2 : Int) (S : Sg), Fm W S0 S → Kf W S0 (q9 x0 x1 x2 S)) : ∀ (n : Nat) (x1 x2 x3 x4 : Int) (S : Sg), Fm W S0 S → Kf W S0 (zf_W_byAll_31 r0 q9 n x1 x2 x3 x4 S) := by
  intro n
  induction n with
  | zero => intro x1 x2 x3 x4 S h0; exact Kf.none
  | succ n ih =>
    intro x1 x2 x3 x4 S h0
    rw [zf_W_byAll_31]
    refine Kf.ite ?_ ?_
    · skip
      exact (zk_W_byAll_140 (r0 := r0) hW hq9) _ _ _ _ h0
    · skip
      refine Kf.bd ((zk_W_isCrew (r0 := (r0)) (fun _ _ _ _ h => h.elim)) _ _ _ _ h0) (fun a2 S3 h1 => ?_)
      refine Kf.ite ?_ ?_
      · skip
        exact (zk_W_byAll_134 (r0 := r0) hW hq9 ih) _ _ _ _ _ h1
      · skip
        refine Kf.bd ((zk_W_feasible (r0 := (r0)) (fun _ _ _ _ h => h.elim)) _ _ _ _ h1) (fun a5 S6 h2 => ?_)
        refine Kf.ite ?_ ?_
        · skip
          exact (zk_W_byAll_134 (r0 := r0) hW hq9 ih) _ _ _ _ _ h2
        · skip
          refine Kf.lt (fun v8 => ?_)
          refine Kf.ck ?_
          refine Kf.put h2 (hW _ _ _ _ (Or.inr ⟨rfl, rfl, rfl⟩)) (fun S10 h4 => ?_)
          exact (zk_W_byAll_83 (r0 := r0) hW hq9) 4096 _ _ _ _ _ _ h4
theorem zk_W_byAll_9 {W : Nat → Int → Int → Int → Prop} {S0 : Sg} {r0 : Int} (hW : ∀ g r k i, zr_W_byAll r0 g r k i → W g r k i) : ∀ (n : Nat) (x1 x2 x3 : Int) (S : Sg), Fm W S0 S → Kf W S0 (zf_W_byAll_9 r0 n x1 x2 x3 S) := by
  intro n
  induction n with
  | zero => intro x1 x2 x3 S h0; exact Kf.none
  | succ n ih =>
    intro x1 x2 x3 S h0
    rw [zf_W_byAll_9]
    refine Kf.ite ?_ ?_
    · skip
      exact Kf.some h0
    · skip
      refine Kf.ite ?_ ?_
      · skip
        exact (zk_W_byAll_140 (r0 := r0) hW ih) _ _ _ _ h0
      · skip
        exact (zk_W_byAll_31 (r0 := r0) hW ih) 4096 _ _ _ _ _ h0
theorem zk_W_byAll {W : Nat → Int → Int → Int → Prop} {S0 : Sg} {r0 : Int} (hW : ∀ g r k i, zr_W_byAll r0 g r k i → W g r k i) : ∀ (S : Sg), Fm W S0 S → Kf W S0 (zf_W_byAll r0 S) := by
  intro S h0
  unfold zf_W_byAll
  refine Kf.bd ((zk_W_bestSet (r0 := (r0)) (fun _ _ _ _ h => h.elim)) _ h0) (fun a1 S2 h1 => ?_)
  exact (zk_W_byAll_9 (r0 := r0) hW) 4096 _ _ _ _ h1
def zr_W_fits (r0 : Int) (g : Nat) (r k i : Int) : Prop := False
theorem zk_W_fits {W : Nat → Int → Int → Int → Prop} {S0 : Sg} {r0 : Int} (hW : ∀ g r k i, zr_W_fits r0 g r k i → W g r k i) : ∀ (x1 : Int) (x2 : Int) (S : Sg), Fm W S0 S → Kf W S0 (zf_W_fits r0 x1 x2 S) := by
  intro x1 x2 S h0
  unfold zf_W_fits
  refine Kf.ck ?_
  refine Kf.ck ?_
  refine Kf.ite ?_ ?_
  · skip
    exact Kf.some h0
  · skip
    exact Kf.some h0
def zr_W_canAny (r0 : Int) (g : Nat) (r k i : Int) : Prop := False
theorem zk_W_canAny_31 {W : Nat → Int → Int → Int → Prop} {S0 : Sg} {r0 : Int} (hW : ∀ g r k i, zr_W_canAny r0 g r k i → W g r k i) {q2 : Int → Int → Sg → Option (Int × Sg)} (hq2 : ∀ (x0 x1 : Int) (S : Sg), Fm W S0 S → Kf W S0 (q2 x0 x1 S)) : ∀ (x1 : Int) (x2 : Int) (S : Sg), Fm W S0 S → Kf W S0 (zf_W_canAny_31 r0 q2 x1 x2 S) := by
  intro x1 x2 S h0
  unfold zf_W_canAny_31
  refine Kf.lt (fun v1 => ?_)
  exact hq2 _ _ _ h0
theorem zk_W_canAny_2 {W : Nat → Int → Int → Int → Prop} {S0 : Sg} {r0 : Int} (hW : ∀ g r k i, zr_W_canAny r0 g r k i → W g r k i) : ∀ (n : Nat) (x1 x2 : Int) (S : Sg), Fm W S0 S → Kf W S0 (zf_W_canAny_2 r0 n x1 x2 S) := by
  intro n
  induction n with
  | zero => intro x1 x2 S h0; exact Kf.none
  | succ n ih =>
    intro x1 x2 S h0
    rw [zf_W_canAny_2]
    refine Kf.ite ?_ ?_
    · skip
      exact Kf.some h0
    · skip
      refine Kf.ck ?_
      refine Kf.ite ?_ ?_
      · skip
        refine Kf.bd ((zk_W_fits (r0 := (r0)) (fun _ _ _ _ h => h.elim)) _ _ _ h0) (fun a4 S5 h1 => ?_)
        refine Kf.ite ?_ ?_
        · skip
          exact (zk_W_canAny_31 (r0 := r0) hW ih) _ _ _ h1
        · skip
          exact Kf.some h1
      · skip
        exact (zk_W_canAny_31 (r0 := r0) hW ih) _ _ _ h0
theorem zk_W_canAny {W : Nat → Int → Int → Int → Prop} {S0 : Sg} {r0 : Int} (hW : ∀ g r k i, zr_W_canAny r0 g r k i → W g r k i) : ∀ (x1 : Int) (S : Sg), Fm W S0 S → Kf W S0 (zf_W_canAny r0 x1 S) := by
  intro x1 S h0
  unfold zf_W_canAny
  exact (zk_W_canAny_2 (r0 := r0) hW) 4096 _ _ _ h0
def zr_W_findFits (r0 : Int) (g : Nat) (r k i : Int) : Prop := (g = 5 ∧ r = r0 ∧ k = 38)
theorem zk_W_findFits_69 {W : Nat → Int → Int → Int → Prop} {S0 : Sg} {r0 : Int} (hW : ∀ g r k i, zr_W_findFits r0 g r k i → W g r k i) {q2 : Int → Sg → Option (Int × Sg)} (hq2 : ∀ (x0 : Int) (S : Sg), Fm W S0 S → Kf W S0 (q2 x0 S)) : ∀ (x1 : Int) (S : Sg), Fm W S0 S → Kf W S0 (zf_W_findFits_69 r0 q2 x1 S) := by
  intro x1 S h0
  unfold zf_W_findFits_69
  refine Kf.lt (fun v1 => ?_)
  exact hq2 _ _ h0
theorem zk_W_findFits_61 {W : Nat → Int → Int → Int → Prop} {S0 : Sg} {r0 : Int} (hW : ∀ g r k i, zr_W_findFits r0 g r k i → W g r k i) {q2 : Int → Sg → Option (Int × Sg)} (hq2 : ∀ (x0 : Int) (S : Sg), Fm W S0 S → Kf W S0 (q2 x0 S)) {q19 : Int → Int → Sg → Option (Int × Sg)} (hq19 : ∀ (x0 x1 : Int) (S : Sg), Fm W S0 S → Kf W S0 (q19 x0 x1 S)) : ∀ (x1 : Int) (x2 : Int) (xt1 : Int) (xt2 : Int) (xt3 : Int) (S : Sg), Fm W S0 S → Kf W S0 (zf_W_findFits_61 r0 q2 q19 x1 x2 xt1 xt2 xt3 S) := by
  intro x1 x2 xt1 xt2 xt3 S h0
  unfold zf_W_findFits_61
  refine Kf.ck ?_
  refine Kf.put h0 (hW _ _ _ _ ⟨rfl, rfl, rfl⟩) (fun S2 h1 => ?_)
  refine Kf.lt (fun v3 => ?_)
  exact hq19 _ _ _ h1
theorem zk_W_findFits_19 {W : Nat → Int → Int → Int → Prop} {S0 : Sg} {r0 : Int} (hW : ∀ g r k i, zr_W_findFits r0 g r k i → W g r k i) {q2 : Int → Sg → Option (Int × Sg)} (hq2 : ∀ (x0 : Int) (S : Sg), Fm W S0 S → Kf W S0 (q2 x0 S)) : ∀ (n : Nat) (x1 x2 : Int) (S : Sg), Fm W S0 S → Kf W S0 (zf_W_findFits_19 r0 q2 n x1 x2 S) := by
  intro n
  induction n with
  | zero => intro x1 x2 S h0; exact Kf.none
  | succ n ih =>
    intro x1 x2 S h0
    rw [zf_W_findFits_19]
    refine Kf.ite ?_ ?_
    · skip
      exact (zk_W_findFits_69 (r0 := r0) hW hq2) _ _ h0
    · skip
      refine Kf.ite ?_ ?_
      · skip
        exact (zk_W_findFits_69 (r0 := r0) hW hq2) _ _ h0
      · skip
        refine Kf.ck ?_
        refine Kf.ck ?_
        refine Kf.bd ((zk_W_fits (r0 := (r0)) (fun _ _ _ _ h => h.elim)) _ _ _ h0) (fun a5 S6 h1 => ?_)
        refine Kf.ite ?_ ?_
        · skip
          exact (zk_W_findFits_61 (r0 := r0) hW hq2 ih) _ _ _ _ _ _ h1
        · skip
          exact (zk_W_findFits_61 (r0 := r0) hW hq2 ih) _ _ _ _ _ _ h1
theorem zk_W_findFits_2 {W : Nat → Int → Int → Int → Prop} {S0 : Sg} {r0 : Int} (hW : ∀ g r k i, zr_W_findFits r0 g r k i → W g r k i) : ∀ (n : Nat) (x1 : Int) (S : Sg), Fm W S0 S → Kf W S0 (zf_W_findFits_2 r0 n x1 S) := by
  intro n
  induction n with
  | zero => intro x1 S h0; exact Kf.none
  | succ n ih =>
    intro x1 S h0
    rw [zf_W_findFits_2]
    refine Kf.ite ?_ ?_
    · skip
      exact Kf.some h0
    · skip
      refine Kf.ck ?_
      refine Kf.put h0 (hW _ _ _ _ ⟨rfl, rfl, rfl⟩) (fun S3 h1 => ?_)
      exact (zk_W_findFits_19 (r0 := r0) hW ih) 4096 _ _ _ h1
theorem zk_W_findFits {W : Nat → Int → Int → Int → Prop} {S0 : Sg} {r0 : Int} (hW : ∀ g r k i, zr_W_findFits r0 g r k i → W g r k i) : ∀ (S : Sg), Fm W S0 S → Kf W S0 (zf_W_findFits r0 S) := by
  intro S h0
  unfold zf_W_findFits
  exact (zk_W_findFits_2 (r0 := r0) hW) 4096 _ _ h0
def zr_W_gather (r0 : Int) (g : Nat) (r k i : Int) : Prop := (g = 5 ∧ r = r0 ∧ k = 0 ∧ i = 47) ∨ (g = 5 ∧ r = r0 ∧ k = 0 ∧ i = 48) ∨ (g = 5 ∧ r = r0 ∧ k = 0 ∧ i = 49) ∨ (g = 5 ∧ r = r0 ∧ k = 0 ∧ i = 52) ∨ (g = 5 ∧ r = r0 ∧ k = 35) ∨ (g = 5 ∧ r = r0 ∧ k = 36) ∨ (g = 5 ∧ r = r0 ∧ k = 38)
theorem zk_W_gather_77 {W : Nat → Int → Int → Int → Prop} {S0 : Sg} {r0 : Int} (hW : ∀ g r k i, zr_W_gather r0 g r k i → W g r k i) {q7 : Int → Sg → Option (Int × Sg)} (hq7 : ∀ (x0 : Int) (S : Sg), Fm W S0 S → Kf W S0 (q7 x0 S)) : ∀ (x1 : Int) (S : Sg), Fm W S0 S → Kf W S0 (zf_W_gather_77 r0 q7 x1 S) := by
  intro x1 S h0
  unfold zf_W_gather_77
  refine Kf.lt (fun v1 => ?_)
  exact hq7 _ _ h0
theorem zk_W_gather_38 {W : Nat → Int → Int → Int → Prop} {S0 : Sg} {r0 : Int} (hW : ∀ g r k i, zr_W_gather r0 g r k i → W g r k i) {q7 : Int → Sg → Option (Int × Sg)} (hq7 : ∀ (x0 : Int) (S : Sg), Fm W S0 S → Kf W S0 (q7 x0 S)) : ∀ (x1 : Int) (xt0 : Int) (S : Sg), Fm W S0 S → Kf W S0 (zf_W_gather_38 r0 q7 x1 xt0 S) := by
  intro x1 xt0 S h0
  unfold zf_W_gather_38
  refine Kf.ite ?_ ?_
  · skip
    exact (zk_W_gather_77 (r0 := r0) hW hq7) _ _ h0
  · skip
    refine Kf.bd ((zk_W_canAny (r0 := (r0)) (fun _ _ _ _ h => h.elim)) _ _ h0) (fun a2 S3 h1 => ?_)
    refine Kf.ite ?_ ?_
    · skip
      exact (zk_W_gather_77 (r0 := r0) hW hq7) _ _ h1
    · skip
      refine Kf.bd ((zk_W_may (r0 := (r0)) (fun g r k i h => hW g r k i (Or.elim h (fun h => (Or.inl ⟨h.1, h.2.1, h.2.2.1, h.2.2.2⟩)) (fun h => (Or.elim h (fun h => (Or.inr (Or.inl ⟨h.1, h.2.1, h.2.2.1, h.2.2.2⟩))) (fun h => (Or.elim h (fun h => (Or.inr (Or.inr (Or.inl ⟨h.1, h.2.1, h.2.2.1, h.2.2.2⟩)))) (fun h => (Or.inr (Or.inr (Or.inr (Or.inr (Or.inl ⟨h.1, h.2.1, h.2.2⟩))))))))))))) _ _ _ h1) (fun a5 S6 h2 => ?_)
      refine Kf.ite ?_ ?_
      · skip
        exact (zk_W_gather_77 (r0 := r0) hW hq7) _ _ h2
      · skip
        refine Kf.put h2 (hW _ _ _ _ (Or.inr (Or.inr (Or.inr (Or.inl ⟨rfl, rfl, rfl, rfl⟩))))) (fun S8 h3 => ?_)
        refine Kf.ck ?_
        refine Kf.put h3 (hW _ _ _ _ (Or.inr (Or.inr (Or.inr (Or.inr (Or.inr (Or.inl ⟨rfl, rfl, rfl⟩))))))) (fun S11 h4 => ?_)
        exact (zk_W_gather_77 (r0 := r0) hW hq7) _ _ h4
theorem zk_W_gather_33 {W : Nat → Int → Int → Int → Prop} {S0 : Sg} {r0 : Int} (hW : ∀ g r k i, zr_W_gather r0 g r k i → W g r k i) {q7 : Int → Sg → Option (Int × Sg)} (hq7 : ∀ (x0 : Int) (S : Sg), Fm W S0 S → Kf W S0 (q7 x0 S)) : ∀ (x1 : Int) (S : Sg), Fm W S0 S → Kf W S0 (zf_W_gather_33 r0 q7 x1 S) := by
  intro x1 S h0
  unfold zf_W_gather_33
  exact (zk_W_gather_38 (r0 := r0) hW hq7) _ _ _ h0
theorem zk_W_gather_7 {W : Nat → Int → Int → Int → Prop} {S0 : Sg} {r0 : Int} (hW : ∀ g r k i, zr_W_gather r0 g r k i → W g r k i) : ∀ (n : Nat) (x1 : Int) (S : Sg), Fm W S0 S → Kf W S0 (zf_W_gather_7 r0 n x1 S) := by
  intro n
  induction n with
  | zero => intro x1 S h0; exact Kf.none
  | succ n ih =>
    intro x1 S h0
    rw [zf_W_gather_7]
    refine Kf.ite ?_ ?_
    · skip
      refine Kf.bd ((zk_W_findFits (r0 := (r0)) (fun g r k i h => hW g r k i (Or.inr (Or.inr (Or.inr (Or.inr (Or.inr (Or.inr ⟨h.1, h.2.1, h.2.2⟩)))))))) _ h0) (fun a2 S3 h1 => ?_)
      exact Kf.some h1
    · skip
      refine Kf.bd ((zk_W_kind (r0 := (r0)) (fun _ _ _ _ h => h.elim)) _ _ h0) (fun a4 S5 h2 => ?_)
      refine Kf.ite ?_ ?_
      · skip
        exact (zk_W_gather_33 (r0 := r0) hW ih) _ _ h2
      · skip
        refine Kf.bd ((zk_W_kind (r0 := (r0)) (fun _ _ _ _ h => h.elim)) _ _ h2) (fun a7 S8 h3 => ?_)
        refine Kf.ite ?_ ?_
        · skip
          exact (zk_W_gather_33 (r0 := r0) hW ih) _ _ h3
        · skip
          exact (zk_W_gather_38 (r0 := r0) hW ih) _ _ _ h3
theorem zk_W_gather {W : Nat → Int → Int → Int → Prop} {S0 : Sg} {r0 : Int} (hW : ∀ g r k i, zr_W_gather r0 g r k i → W g r k i) : ∀ (S : Sg), Fm W S0 S → Kf W S0 (zf_W_gather r0 S) := by
  intro S h0
  unfold zf_W_gather
  refine Kf.put h0 (hW _ _ _ _ (Or.inr (Or.inr (Or.inr (Or.inl ⟨rfl, rfl, rfl, rfl⟩))))) (fun S1 h1 => ?_)
  exact (zk_W_gather_7 (r0 := r0) hW) 4096 _ _ h1
def zr_W_oneByOne (r0 : Int) (g : Nat) (r k i : Int) : Prop := (g = 21 ∧ r = r0 ∧ k = 0) ∨ (g = 5 ∧ r = r0 ∧ k = 37)
theorem zk_W_oneByOne_146 {W : Nat → Int → Int → Int → Prop} {S0 : Sg} {r0 : Int} (hW : ∀ g r k i, zr_W_oneByOne r0 g r k i → W g r k i) {q4 : Int → Int → Sg → Option (Int × Sg)} (hq4 : ∀ (x0 x1 : Int) (S : Sg), Fm W S0 S → Kf W S0 (q4 x0 x1 S)) : ∀ (x1 : Int) (x3 : Int) (S : Sg), Fm W S0 S → Kf W S0 (zf_W_oneByOne_146 r0 q4 x1 x3 S) := by
  intro x1 x3 S h0
  unfold zf_W_oneByOne_146
  refine Kf.lt (fun v1 => ?_)
  exact hq4 _ _ _ h0
theorem zk_W_oneByOne_105 {W : Nat → Int → Int → Int → Prop} {S0 : Sg} {r0 : Int} (hW : ∀ g r k i, zr_W_oneByOne r0 g r k i → W g r k i) {q4 : Int → Int → Sg → Option (Int × Sg)} (hq4 : ∀ (x0 x1 : Int) (S : Sg), Fm W S0 S → Kf W S0 (q4 x0 x1 S)) : ∀ (x1 : Int) (x3 : Int) (x4 : Int) (x6 : Int) (S : Sg), Fm W S0 S → Kf W S0 (zf_W_oneByOne_105 r0 q4 x1 x3 x4 x6 S) := by
  intro x1 x3 x4 x6 S h0
  unfold zf_W_oneByOne_105
  refine Kf.ck ?_
  refine Kf.ite ?_ ?_
  · skip
    refine Kf.ite ?_ ?_
    · skip
      refine Kf.put h0 (hW _ _ _ _ (Or.inl ⟨rfl, rfl, rfl⟩)) (fun S4 h1 => ?_)
      refine Kf.put h1 (hW _ _ _ _ (Or.inr ⟨rfl, rfl, rfl⟩)) (fun S5 h2 => ?_)
      refine Kf.lt (fun v6 => ?_)
      exact (zk_W_oneByOne_146 (r0 := r0) hW hq4) _ _ _ h2
    · skip
      exact (zk_W_oneByOne_146 (r0 := r0) hW hq4) _ _ _ h0
  · skip
    exact (zk_W_oneByOne_146 (r0 := r0) hW hq4) _ _ _ h0
theorem zk_W_oneByOne_99 {W : Nat → Int → Int → Int → Prop} {S0 : Sg} {r0 : Int} (hW : ∀ g r k i, zr_W_oneByOne r0 g r k i → W g r k i) {q4 : Int → Int → Sg → Option (Int × Sg)} (hq4 : ∀ (x0 x1 : Int) (S : Sg), Fm W S0 S → Kf W S0 (q4 x0 x1 S)) {q21 : Int → Int → Int → Int → Int → Sg → Option (Int × Sg)} (hq21 : ∀ (x0 x1 x2 x3 x4 : Int) (S : Sg), Fm W S0 S → Kf W S0 (q21 x0 x1 x2 x3 x4 S)) : ∀ (x1 : Int) (x3 : Int) (x4 : Int) (x6 : Int) (x7 : Int) (S : Sg), Fm W S0 S → Kf W S0 (zf_W_oneByOne_99 r0 q4 q21 x1 x3 x4 x6 x7 S) := by
  intro x1 x3 x4 x6 x7 S h0
  unfold zf_W_oneByOne_99
  refine Kf.lt (fun v1 => ?_)
  exact hq21 _ _ _ _ _ _ h0
theorem zk_W_oneByOne_21 {W : Nat → Int → Int → Int → Prop} {S0 : Sg} {r0 : Int} (hW : ∀ g r k i, zr_W_oneByOne r0 g r k i → W g r k i) {q4 : Int → Int → Sg → Option (Int × Sg)} (hq4 : ∀ (x0 x1 : Int) (S : Sg), Fm W S0 S → Kf W S0 (q4 x0 x1 S)) : ∀ (n : Nat) (x1 x3 x4 x6 x7 : Int) (S : Sg), Fm W S0 S → Kf W S0 (zf_W_oneByOne_21 r0 q4 n x1 x3 x4 x6 x7 S) := by
  intro n
  induction n with
  | zero => intro x1 x3 x4 x6 x7 S h0; exact Kf.none
  | succ n ih =>
    intro x1 x3 x4 x6 x7 S h0
    rw [zf_W_oneByOne_21]
    refine Kf.ite ?_ ?_
    · skip
      exact (zk_W_oneByOne_105 (r0 := r0) hW hq4) _ _ _ _ _ h0
    · skip
      refine Kf.ck ?_
      refine Kf.ite ?_ ?_
      · skip
        exact (zk_W_oneByOne_105 (r0 := r0) hW hq4) _ _ _ _ _ h0
      · skip
        refine Kf.ite ?_ ?_
        · skip
          refine Kf.ck ?_
          refine Kf.ite ?_ ?_
          · skip
            refine Kf.bd ((zk_W_fits (r0 := (r0)) (fun _ _ _ _ h => h.elim)) _ _ _ h0) (fun a7 S8 h1 => ?_)
            refine Kf.ite ?_ ?_
            · skip
              exact (zk_W_oneByOne_99 (r0 := r0) hW hq4 ih) _ _ _ _ _ _ h1
            · skip
              refine Kf.lt (fun v10 => ?_)
              refine Kf.lt (fun v11 => ?_)
              exact (zk_W_oneByOne_99 (r0 := r0) hW hq4 ih) _ _ _ _ _ _ h1
          · skip
            exact (zk_W_oneByOne_99 (r0 := r0) hW hq4 ih) _ _ _ _ _ _ h0
        · skip
          exact (zk_W_oneByOne_99 (r0 := r0) hW hq4 ih) _ _ _ _ _ _ h0
theorem zk_W_oneByOne_4 {W : Nat → Int → Int → Int → Prop} {S0 : Sg} {r0 : Int} (hW : ∀ g r k i, zr_W_oneByOne r0 g r k i → W g r k i) : ∀ (n : Nat) (x1 x3 : Int) (S : Sg), Fm W S0 S → Kf W S0 (zf_W_oneByOne_4 r0 n x1 x3 S) := by
  intro n
  induction n with
  | zero => intro x1 x3 S h0; exact Kf.none
  | succ n ih =>
    intro x1 x3 S h0
    rw [zf_W_oneByOne_4]
    refine Kf.ite ?_ ?_
    · skip
      exact Kf.some h0
    · skip
      exact (zk_W_oneByOne_21 (r0 := r0) hW ih) 4096 _ _ _ _ _ _ h0
theorem zk_W_oneByOne {W : Nat → Int → Int → Int → Prop} {S0 : Sg} {r0 : Int} (hW : ∀ g r k i, zr_W_oneByOne r0 g r k i → W g r k i) : ∀ (S : Sg), Fm W S0 S → Kf W S0 (zf_W_oneByOne r0 S) := by
  intro S h0
  unfold zf_W_oneByOne
  exact (zk_W_oneByOne_4 (r0 := r0) hW) 4096 _ _ _ h0
def zr_W_fill (r0 : Int) (g : Nat) (r k i : Int) : Prop := (g = 21 ∧ r = r0 ∧ k = 0) ∨ (g = 5 ∧ r = r0 ∧ k = 0 ∧ i = 47) ∨ (g = 5 ∧ r = r0 ∧ k = 0 ∧ i = 48) ∨ (g = 5 ∧ r = r0 ∧ k = 0 ∧ i = 49) ∨ (g = 5 ∧ r = r0 ∧ k = 0 ∧ i = 52) ∨ (g = 5 ∧ r = r0 ∧ k = 35) ∨ (g = 5 ∧ r = r0 ∧ k = 36) ∨ (g = 5 ∧ r = r0 ∧ k = 37) ∨ (g = 5 ∧ r = r0 ∧ k = 38)
theorem zk_W_fill_79 {W : Nat → Int → Int → Int → Prop} {S0 : Sg} {r0 : Int} (hW : ∀ g r k i, zr_W_fill r0 g r k i → W g r k i) {q56 : Int → Int → Sg → Option (Int × Sg)} (hq56 : ∀ (x0 x1 : Int) (S : Sg), Fm W S0 S → Kf W S0 (q56 x0 x1 S)) : ∀ (x2 : Int) (xt0 : Int) (xt1 : Int) (S : Sg), Fm W S0 S → Kf W S0 (zf_W_fill_79 r0 q56 x2 xt0 xt1 S) := by
  intro x2 xt0 xt1 S h0
  unfold zf_W_fill_79
  refine Kf.lt (fun v1 => ?_)
  refine Kf.lt (fun v2 => ?_)
  exact hq56 _ _ _ h0
theorem zk_W_fill_56 {W : Nat → Int → Int → Int → Prop} {S0 : Sg} {r0 : Int} (hW : ∀ g r k i, zr_W_fill r0 g r k i → W g r k i) : ∀ (n : Nat) (x1 x2 : Int) (S : Sg), Fm W S0 S → Kf W S0 (zf_W_fill_56 r0 n x1 x2 S) := by
  intro n
  induction n with
  | zero => intro x1 x2 S h0; exact Kf.none
  | succ n ih =>
    intro x1 x2 S h0
    rw [zf_W_fill_56]
    refine Kf.ite ?_ ?_
    · skip
      exact Kf.some h0
    · skip
      refine Kf.ck ?_
      refine Kf.ite ?_ ?_
      · skip
        exact (zk_W_fill_79 (r0 := r0) hW ih) _ _ _ _ h0
      · skip
        exact (zk_W_fill_79 (r0 := r0) hW ih) _ _ _ _ h0
theorem zk_W_fill_52 {W : Nat → Int → Int → Int → Prop} {S0 : Sg} {r0 : Int} (hW : ∀ g r k i, zr_W_fill r0 g r k i → W g r k i) : ∀ (S : Sg), Fm W S0 S → Kf W S0 (zf_W_fill_52 r0 S) := by
  intro S h0
  unfold zf_W_fill_52
  exact (zk_W_fill_56 (r0 := r0) hW) 4096 _ _ _ h0
theorem zk_W_fill_6 {W : Nat → Int → Int → Int → Prop} {S0 : Sg} {r0 : Int} (hW : ∀ g r k i, zr_W_fill r0 g r k i → W g r k i) : ∀ (n : Nat) (x1 : Int) (S : Sg), Fm W S0 S → Kf W S0 (zf_W_fill_6 r0 n x1 S) := by
  intro n
  induction n with
  | zero => intro x1 S h0; exact Kf.none
  | succ n ih =>
    intro x1 S h0
    rw [zf_W_fill_6]
    refine Kf.ite ?_ ?_
    · skip
      refine Kf.ite ?_ ?_
      · skip
        refine Kf.bd ((zk_W_oneByOne (r0 := (r0)) (fun g r k i h => hW g r k i (Or.elim h (fun h => (Or.inl ⟨h.1, h.2.1, h.2.2⟩)) (fun h => (Or.inr (Or.inr (Or.inr (Or.inr (Or.inr (Or.inr (Or.inr (Or.inl ⟨h.1, h.2.1, h.2.2⟩)))))))))))) _ h0) (fun a3 S4 h1 => ?_)
        exact (zk_W_fill_52 (r0 := r0) hW) _ h1
      · skip
        refine Kf.bd ((zk_W_byAll (r0 := (r0)) (fun g r k i h => hW g r k i (Or.elim h (fun h => (Or.inl ⟨h.1, h.2.1, h.2.2⟩)) (fun h => (Or.inr (Or.inr (Or.inr (Or.inr (Or.inr (Or.inr (Or.inr (Or.inl ⟨h.1, h.2.1, h.2.2⟩)))))))))))) _ h0) (fun a5 S6 h2 => ?_)
        exact (zk_W_fill_52 (r0 := r0) hW) _ h2
    · skip
      refine Kf.ck ?_
      refine Kf.put h0 (hW _ _ _ _ (Or.inl ⟨rfl, rfl, rfl⟩)) (fun S8 h3 => ?_)
      refine Kf.put h3 (hW _ _ _ _ (Or.inr (Or.inr (Or.inr (Or.inr (Or.inr (Or.inr (Or.inr (Or.inl ⟨rfl, rfl, rfl⟩))))))))) (fun S9 h4 => ?_)
      refine Kf.lt (fun v10 => ?_)
      exact ih _ _ h4
theorem zk_W_fill {W : Nat → Int → Int → Int → Prop} {S0 : Sg} {r0 : Int} (hW : ∀ g r k i, zr_W_fill r0 g r k i → W g r k i) : ∀ (S : Sg), Fm W S0 S → Kf W S0 (zf_W_fill r0 S) := by
  intro S h0
  unfold zf_W_fill
  refine Kf.bd ((zk_W_gather (r0 := (r0)) (fun g r k i h => hW g r k i (Or.elim h (fun h => (Or.inr (Or.inl ⟨h.1, h.2.1, h.2.2.1, h.2.2.2⟩))) (fun h => (Or.elim h (fun h => (Or.inr (Or.inr (Or.inl ⟨h.1, h.2.1, h.2.2.1, h.2.2.2⟩)))) (fun h => (Or.elim h (fun h => (Or.inr (Or.inr (Or.inr (Or.inl ⟨h.1, h.2.1, h.2.2.1, h.2.2.2⟩))))) (fun h => (Or.elim h (fun h => (Or.inr (Or.inr (Or.inr (Or.inr (Or.inl ⟨h.1, h.2.1, h.2.2.1, h.2.2.2⟩)))))) (fun h => (Or.elim h (fun h => (Or.inr (Or.inr (Or.inr (Or.inr (Or.inr (Or.inl ⟨h.1, h.2.1, h.2.2⟩))))))) (fun h => (Or.elim h (fun h => (Or.inr (Or.inr (Or.inr (Or.inr (Or.inr (Or.inr (Or.inl ⟨h.1, h.2.1, h.2.2⟩)))))))) (fun h => (Or.inr (Or.inr (Or.inr (Or.inr (Or.inr (Or.inr (Or.inr (Or.inr ⟨h.1, h.2.1, h.2.2⟩)))))))))))))))))))))) _ h0) (fun a1 S2 h1 => ?_)
  exact (zk_W_fill_6 (r0 := r0) hW) 4096 _ _ h1
def zr_M_hands (g : Nat) (r k i : Int) : Prop := (g = 21 ∧ r = 0 ∧ k = 0) ∨ (g = 5 ∧ r = 0 ∧ k = 0 ∧ i = 47) ∨ (g = 5 ∧ r = 0 ∧ k = 0 ∧ i = 48) ∨ (g = 5 ∧ r = 0 ∧ k = 0 ∧ i = 49) ∨ (g = 5 ∧ r = 0 ∧ k = 0 ∧ i = 52) ∨ (g = 5 ∧ r = 0 ∧ k = 35) ∨ (g = 5 ∧ r = 0 ∧ k = 36) ∨ (g = 5 ∧ r = 0 ∧ k = 37) ∨ (g = 5 ∧ r = 0 ∧ k = 38) ∨ (g = 9 ∧ r = 0 ∧ k = 0 ∧ i = 4)
theorem zk_M_hands {W : Nat → Int → Int → Int → Prop} {S0 : Sg} (hW : ∀ g r k i, zr_M_hands g r k i → W g r k i) : ∀ (x1 : Int) (x2 : Int) (S : Sg), Fm W S0 S → Kf W S0 (zf_M_hands x1 x2 S) := by
  intro x1 x2 S h0
  unfold zf_M_hands
  refine Kf.put h0 (hW _ _ _ _ (Or.inr (Or.inr (Or.inr (Or.inr (Or.inr (Or.inr (Or.inr (Or.inr (Or.inr ⟨rfl, rfl, rfl, rfl⟩)))))))))) (fun S1 h1 => ?_)
  refine Kf.bd ((zk_M_isPost (fun _ _ _ _ h => h.elim)) _ _ h1) (fun a2 S3 h2 => ?_)
  refine Kf.ite ?_ ?_
  · skip
    exact Kf.some h2
  · skip
    refine Kf.bd ((zk_W_fill (r0 := (0)) (fun g r k i h => hW g r k i (Or.elim h (fun h => (Or.inl ⟨h.1, h.2.1, h.2.2⟩)) (fun h => (Or.elim h (fun h => (Or.inr (Or.inl ⟨h.1, h.2.1, h.2.2.1, h.2.2.2⟩))) (fun h => (Or.elim h (fun h => (Or.inr (Or.inr (Or.inl ⟨h.1, h.2.1, h.2.2.1, h.2.2.2⟩)))) (fun h => (Or.elim h (fun h => (Or.inr (Or.inr (Or.inr (Or.inl ⟨h.1, h.2.1, h.2.2.1, h.2.2.2⟩))))) (fun h => (Or.elim h (fun h => (Or.inr (Or.inr (Or.inr (Or.inr (Or.inl ⟨h.1, h.2.1, h.2.2.1, h.2.2.2⟩)))))) (fun h => (Or.elim h (fun h => (Or.inr (Or.inr (Or.inr (Or.inr (Or.inr (Or.inl ⟨h.1, h.2.1, h.2.2⟩))))))) (fun h => (Or.elim h (fun h => (Or.inr (Or.inr (Or.inr (Or.inr (Or.inr (Or.inr (Or.inl ⟨h.1, h.2.1, h.2.2⟩)))))))) (fun h => (Or.elim h (fun h => (Or.inr (Or.inr (Or.inr (Or.inr (Or.inr (Or.inr (Or.inr (Or.inl ⟨h.1, h.2.1, h.2.2⟩))))))))) (fun h => (Or.inr (Or.inr (Or.inr (Or.inr (Or.inr (Or.inr (Or.inr (Or.inr (Or.inl ⟨h.1, h.2.1, h.2.2⟩))))))))))))))))))))))))))) _ h2) (fun a5 S6 h3 => ?_)
    refine Kf.ite ?_ ?_
    · skip
      refine Kf.ck ?_
      exact Kf.some h3
    · skip
      refine Kf.ck ?_
      exact Kf.some h3
def zr_M_filled (g : Nat) (r k i : Int) : Prop := (g = 21 ∧ r = 0 ∧ k = 0) ∨ (g = 5 ∧ r = 0 ∧ k = 0 ∧ i = 47) ∨ (g = 5 ∧ r = 0 ∧ k = 0 ∧ i = 48) ∨ (g = 5 ∧ r = 0 ∧ k = 0 ∧ i = 49) ∨ (g = 5 ∧ r = 0 ∧ k = 0 ∧ i = 52) ∨ (g = 5 ∧ r = 0 ∧ k = 35) ∨ (g = 5 ∧ r = 0 ∧ k = 36) ∨ (g = 5 ∧ r = 0 ∧ k = 37) ∨ (g = 5 ∧ r = 0 ∧ k = 38) ∨ (g = 9 ∧ r = 0 ∧ k = 0 ∧ i = 4)
theorem zk_M_filled {W : Nat → Int → Int → Int → Prop} {S0 : Sg} (hW : ∀ g r k i, zr_M_filled g r k i → W g r k i) : ∀ (S : Sg), Fm W S0 S → Kf W S0 (zf_M_filled S) := by
  intro S h0
  unfold zf_M_filled
  refine Kf.put h0 (hW _ _ _ _ (Or.inr (Or.inr (Or.inr (Or.inr (Or.inr (Or.inr (Or.inr (Or.inr (Or.inr ⟨rfl, rfl, rfl, rfl⟩)))))))))) (fun S1 h1 => ?_)
  refine Kf.bd ((zk_W_fill (r0 := (0)) (fun g r k i h => hW g r k i (Or.elim h (fun h => (Or.inl ⟨h.1, h.2.1, h.2.2⟩)) (fun h => (Or.elim h (fun h => (Or.inr (Or.inl ⟨h.1, h.2.1, h.2.2.1, h.2.2.2⟩))) (fun h => (Or.elim h (fun h => (Or.inr (Or.inr (Or.inl ⟨h.1, h.2.1, h.2.2.1, h.2.2.2⟩)))) (fun h => (Or.elim h (fun h => (Or.inr (Or.inr (Or.inr (Or.inl ⟨h.1, h.2.1, h.2.2.1, h.2.2.2⟩))))) (fun h => (Or.elim h (fun h => (Or.inr (Or.inr (Or.inr (Or.inr (Or.inl ⟨h.1, h.2.1, h.2.2.1, h.2.2.2⟩)))))) (fun h => (Or.elim h (fun h => (Or.inr (Or.inr (Or.inr (Or.inr (Or.inr (Or.inl ⟨h.1, h.2.1, h.2.2⟩))))))) (fun h => (Or.elim h (fun h => (Or.inr (Or.inr (Or.inr (Or.inr (Or.inr (Or.inr (Or.inl ⟨h.1, h.2.1, h.2.2⟩)))))))) (fun h => (Or.elim h (fun h => (Or.inr (Or.inr (Or.inr (Or.inr (Or.inr (Or.inr (Or.inr (Or.inl ⟨h.1, h.2.1, h.2.2⟩))))))))) (fun h => (Or.inr (Or.inr (Or.inr (Or.inr (Or.inr (Or.inr (Or.inr (Or.inr (Or.inl ⟨h.1, h.2.1, h.2.2⟩))))))))))))))))))))))))))) _ h1) (fun a2 S3 h2 => ?_)
  exact Kf.some h2
def zr_M_isGood (g : Nat) (r k i : Int) : Prop := False
theorem zk_M_isGood {W : Nat → Int → Int → Int → Prop} {S0 : Sg} (hW : ∀ g r k i, zr_M_isGood g r k i → W g r k i) : ∀ (x0 : Int) (S : Sg), Fm W S0 S → Kf W S0 (zf_M_isGood x0 S) := by
  intro x0 S h0
  unfold zf_M_isGood
  refine Kf.bd ((zk_M_in (fun _ _ _ _ h => h.elim)) _ _ _ _ h0) (fun a1 S2 h1 => ?_)
  refine Kf.ck ?_
  exact Kf.some h1
def zr_M_store (g : Nat) (r k i : Int) : Prop := (g = 5 ∧ r = 0 ∧ k = 25) ∨ (g = 9 ∧ r = 0 ∧ k = 0 ∧ i = 4)
theorem zk_M_store {W : Nat → Int → Int → Int → Prop} {S0 : Sg} (hW : ∀ g r k i, zr_M_store g r k i → W g r k i) : ∀ (x1 : Int) (x2 : Int) (S : Sg), Fm W S0 S → Kf W S0 (zf_M_store x1 x2 S) := by
  intro x1 x2 S h0
  unfold zf_M_store
  refine Kf.put h0 (hW _ _ _ _ (Or.inr ⟨rfl, rfl, rfl, rfl⟩)) (fun S1 h1 => ?_)
  refine Kf.bd ((zk_M_isGood (fun _ _ _ _ h => h.elim)) _ _ h1) (fun a2 S3 h2 => ?_)
  refine Kf.ite ?_ ?_
  · skip
    exact Kf.some h2
  · skip
    refine Kf.bd ((zk_M_in (fun _ _ _ _ h => h.elim)) _ _ _ _ h2) (fun a5 S6 h3 => ?_)
    refine Kf.ite ?_ ?_
    · skip
      exact Kf.some h3
    · skip
      refine Kf.ck ?_
      refine Kf.ite ?_ ?_
      · skip
        refine Kf.put h3 (hW _ _ _ _ (Or.inl ⟨rfl, rfl, rfl⟩)) (fun S10 h4 => ?_)
        exact Kf.some h4
      · skip
        exact Kf.some h3
def zr_M_rank (g : Nat) (r k i : Int) : Prop := (g = 5 ∧ r = 0 ∧ k = 26) ∨ (g = 5 ∧ r = 0 ∧ k = 27) ∨ (g = 9 ∧ r = 0 ∧ k = 0 ∧ i = 4)
theorem zk_M_rank_51 {W : Nat → Int → Int → Int → Prop} {S0 : Sg} (hW : ∀ g r k i, zr_M_rank g r k i → W g r k i) : ∀ (x1 : Int) (x2 : Int) (x3 : Int) (S : Sg), Fm W S0 S → Kf W S0 (zf_M_rank_51 x1 x2 x3 S) := by
  intro x1 x2 x3 S h0
  unfold zf_M_rank_51
  refine Kf.ite ?_ ?_
  · skip
    refine Kf.ck ?_
    refine Kf.lt (fun v6 => ?_)
    refine Kf.put h0 (hW _ _ _ _ (Or.inl ⟨rfl, rfl, rfl⟩)) (fun S7 h2 => ?_)
    exact Kf.some h2
  · skip
    refine Kf.ck ?_
    refine Kf.lt (fun v3 => ?_)
    refine Kf.put h0 (hW _ _ _ _ (Or.inr (Or.inl ⟨rfl, rfl, rfl⟩))) (fun S4 h4 => ?_)
    exact Kf.some h4
theorem zk_M_rank_34 {W : Nat → Int → Int → Int → Prop} {S0 : Sg} (hW : ∀ g r k i, zr_M_rank g r k i → W g r k i) : ∀ (x1 : Int) (x2 : Int) (x3 : Int) (xt0 : Int) (xt1 : Int) (xt2 : Int) (S : Sg), Fm W S0 S → Kf W S0 (zf_M_rank_34 x1 x2 x3 xt0 xt1 xt2 S) := by
  intro x1 x2 x3 xt0 xt1 xt2 S h0
  unfold zf_M_rank_34
  refine Kf.bd ((zk_M_in (fun _ _ _ _ h => h.elim)) _ _ _ _ h0) (fun a1 S2 h1 => ?_)
  refine Kf.ite ?_ ?_
  · skip
    exact Kf.some h1
  · skip
    refine Kf.ite ?_ ?_
    · skip
      refine Kf.ite ?_ ?_
      · skip
        exact Kf.some h1
      · skip
        exact (zk_M_rank_51 hW) _ _ _ _ h1
    · skip
      exact (zk_M_rank_51 hW) _ _ _ _ h1
theorem zk_M_rank {W : Nat → Int → Int → Int → Prop} {S0 : Sg} (hW : ∀ g r k i, zr_M_rank g r k i → W g r k i) : ∀ (x1 : Int) (x2 : Int) (x3 : Int) (S : Sg), Fm W S0 S → Kf W S0 (zf_M_rank x1 x2 x3 S) := by
  intro x1 x2 x3 S h0
  unfold zf_M_rank
  refine Kf.put h0 (hW _ _ _ _ (Or.inr (Or.inr ⟨rfl, rfl, rfl, rfl⟩))) (fun S1 h1 => ?_)
  refine Kf.bd ((zk_M_isGood (fun _ _ _ _ h => h.elim)) _ _ h1) (fun a2 S3 h2 => ?_)
  refine Kf.ite ?_ ?_
  · skip
    exact Kf.some h2
  · skip
    refine Kf.bd ((zk_M_in (fun _ _ _ _ h => h.elim)) _ _ _ _ h2) (fun a5 S6 h3 => ?_)
    refine Kf.ite ?_ ?_
    · skip
      exact Kf.some h3
    · skip
      refine Kf.ite ?_ ?_
      · skip
        exact (zk_M_rank_34 hW) _ _ _ _ _ _ _ h3
      · skip
        exact (zk_M_rank_34 hW) _ _ _ _ _ _ _ h3
def zr_M_order (g : Nat) (r k i : Int) : Prop := (g = 5 ∧ r = 0 ∧ k = 0 ∧ i = 33) ∨ (g = 5 ∧ r = 0 ∧ k = 28) ∨ (g = 5 ∧ r = 0 ∧ k = 29) ∨ (g = 9 ∧ r = 0 ∧ k = 0 ∧ i = 4)
theorem zk_M_order {W : Nat → Int → Int → Int → Prop} {S0 : Sg} (hW : ∀ g r k i, zr_M_order g r k i → W g r k i) : ∀ (x1 : Int) (x2 : Int) (S : Sg), Fm W S0 S → Kf W S0 (zf_M_order x1 x2 S) := by
  intro x1 x2 S h0
  unfold zf_M_order
  refine Kf.put h0 (hW _ _ _ _ (Or.inr (Or.inr (Or.inr ⟨rfl, rfl, rfl, rfl⟩)))) (fun S1 h1 => ?_)
  refine Kf.bd ((zk_M_isGood (fun _ _ _ _ h => h.elim)) _ _ h1) (fun a2 S3 h2 => ?_)
  refine Kf.ite ?_ ?_
  · skip
    exact Kf.some h2
  · skip
    refine Kf.bd ((zk_M_in (fun _ _ _ _ h => h.elim)) _ _ _ _ h2) (fun a5 S6 h3 => ?_)
    refine Kf.ite ?_ ?_
    · skip
      exact Kf.some h3
    · skip
      refine Kf.ite ?_ ?_
      · skip
        exact Kf.some h3
      · skip
        refine Kf.ck ?_
        refine Kf.put h3 (hW _ _ _ _ (Or.inr (Or.inl ⟨rfl, rfl, rfl⟩))) (fun S10 h4 => ?_)
        refine Kf.ck ?_
        refine Kf.put h4 (hW _ _ _ _ (Or.inr (Or.inr (Or.inl ⟨rfl, rfl, rfl⟩)))) (fun S12 h5 => ?_)
        refine Kf.put h5 (hW _ _ _ _ (Or.inl ⟨rfl, rfl, rfl, rfl⟩)) (fun S13 h6 => ?_)
        exact Kf.some h6
def zr_M_due (g : Nat) (r k i : Int) : Prop := (g = 9 ∧ r = 0 ∧ k = 0 ∧ i = 4)
theorem zk_M_due {W : Nat → Int → Int → Int → Prop} {S0 : Sg} (hW : ∀ g r k i, zr_M_due g r k i → W g r k i) : ∀ (x1 : Int) (S : Sg), Fm W S0 S → Kf W S0 (zf_M_due x1 S) := by
  intro x1 S h0
  unfold zf_M_due
  refine Kf.put h0 (hW _ _ _ _ ⟨rfl, rfl, rfl, rfl⟩) (fun S1 h1 => ?_)
  refine Kf.bd ((zk_M_in (fun _ _ _ _ h => h.elim)) _ _ _ _ h1) (fun a2 S3 h2 => ?_)
  refine Kf.ite ?_ ?_
  · skip
    exact Kf.some h2
  · skip
    refine Kf.ck ?_
    exact Kf.some h2
def zr_M_set (g : Nat) (r k i : Int) : Prop := (g = 5 ∧ r = 0 ∧ k = 30) ∨ (g = 9 ∧ r = 0 ∧ k = 0 ∧ i = 4)
theorem zk_M_set_71 {W : Nat → Int → Int → Int → Prop} {S0 : Sg} (hW : ∀ g r k i, zr_M_set g r k i → W g r k i) : ∀ (x1 : Int) (x2 : Int) (xt0 : Int) (S : Sg), Fm W S0 S → Kf W S0 (zf_M_set_71 x1 x2 xt0 S) := by
  intro x1 x2 xt0 S h0
  unfold zf_M_set_71
  refine Kf.ite ?_ ?_
  · skip
    exact Kf.some h0
  · skip
    refine Kf.ck ?_
    refine Kf.lt (fun v3 => ?_)
    refine Kf.put h0 (hW _ _ _ _ (Or.inl ⟨rfl, rfl, rfl⟩)) (fun S4 h2 => ?_)
    exact Kf.some h2
theorem zk_M_set_70 {W : Nat → Int → Int → Int → Prop} {S0 : Sg} (hW : ∀ g r k i, zr_M_set g r k i → W g r k i) : ∀ (x1 : Int) (x2 : Int) (S : Sg), Fm W S0 S → Kf W S0 (zf_M_set_70 x1 x2 S) := by
  intro x1 x2 S h0
  unfold zf_M_set_70
  exact (zk_M_set_71 hW) _ _ _ _ h0
theorem zk_M_set {W : Nat → Int → Int → Int → Prop} {S0 : Sg} (hW : ∀ g r k i, zr_M_set g r k i → W g r k i) : ∀ (x1 : Int) (x2 : Int) (S : Sg), Fm W S0 S → Kf W S0 (zf_M_set x1 x2 S) := by
  intro x1 x2 S h0
  unfold zf_M_set
  refine Kf.put h0 (hW _ _ _ _ (Or.inr ⟨rfl, rfl, rfl, rfl⟩)) (fun S1 h1 => ?_)
  refine Kf.ite ?_ ?_
  · skip
    refine Kf.bd ((zk_M_in (fun _ _ _ _ h => h.elim)) _ _ _ _ h1) (fun a13 S14 h2 => ?_)
    exact (zk_M_set_71 hW) _ _ _ _ h2
  · skip
    refine Kf.ite ?_ ?_
    · skip
      refine Kf.bd ((zk_M_in (fun _ _ _ _ h => h.elim)) _ _ _ _ h1) (fun a11 S12 h3 => ?_)
      exact (zk_M_set_71 hW) _ _ _ _ h3
    · skip
      refine Kf.ite ?_ ?_
      · skip
        refine Kf.bd ((zk_M_in (fun _ _ _ _ h => h.elim)) _ _ _ _ h1) (fun a9 S10 h4 => ?_)
        exact (zk_M_set_71 hW) _ _ _ _ h4
      · skip
        refine Kf.ite ?_ ?_
        · skip
          refine Kf.bd ((zk_M_in (fun _ _ _ _ h => h.elim)) _ _ _ _ h1) (fun a6 S7 h5 => ?_)
          refine Kf.ite ?_ ?_
          · skip
            exact (zk_M_set_70 hW) _ _ _ h5
          · skip
            exact (zk_M_set_71 hW) _ _ _ _ h5
        · skip
          exact (zk_M_set_70 hW) _ _ _ h1
def zr_M_pays (g : Nat) (r k i : Int) : Prop := (g = 5 ∧ r = 0 ∧ k = 31) ∨ (g = 9 ∧ r = 0 ∧ k = 0 ∧ i = 4)
theorem zk_M_pays_83 {W : Nat → Int → Int → Int → Prop} {S0 : Sg} (hW : ∀ g r k i, zr_M_pays g r k i → W g r k i) : ∀ (x2 : Int) (x3 : Int) (x4 : Int) (xt0 : Int) (S : Sg), Fm W S0 S → Kf W S0 (zf_M_pays_83 x2 x3 x4 xt0 S) := by
  intro x2 x3 x4 xt0 S h0
  unfold zf_M_pays_83
  refine Kf.put h0 (hW _ _ _ _ (Or.inl ⟨rfl, rfl, rfl⟩)) (fun S1 h1 => ?_)
  refine Kf.put h1 (hW _ _ _ _ (Or.inl ⟨rfl, rfl, rfl⟩)) (fun S2 h2 => ?_)
  refine Kf.put h2 (hW _ _ _ _ (Or.inl ⟨rfl, rfl, rfl⟩)) (fun S3 h3 => ?_)
  refine Kf.ite ?_ ?_
  · skip
    exact Kf.some h3
  · skip
    exact Kf.some h3
theorem zk_M_pays_78 {W : Nat → Int → Int → Int → Prop} {S0 : Sg} (hW : ∀ g r k i, zr_M_pays g r k i → W g r k i) : ∀ (x2 : Int) (x3 : Int) (x4 : Int) (S : Sg), Fm W S0 S → Kf W S0 (zf_M_pays_78 x2 x3 x4 S) := by
  intro x2 x3 x4 S h0
  unfold zf_M_pays_78
  exact (zk_M_pays_83 hW) _ _ _ _ _ h0
theorem zk_M_pays {W : Nat → Int → Int → Int → Prop} {S0 : Sg} (hW : ∀ g r k i, zr_M_pays g r k i → W g r k i) : ∀ (x1 : Int) (S : Sg), Fm W S0 S → Kf W S0 (zf_M_pays x1 S) := by
  intro x1 S h0
  unfold zf_M_pays
  refine Kf.put h0 (hW _ _ _ _ (Or.inr ⟨rfl, rfl, rfl, rfl⟩)) (fun S1 h1 => ?_)
  refine Kf.bd ((zk_M_in (fun _ _ _ _ h => h.elim)) _ _ _ _ h1) (fun a2 S3 h2 => ?_)
  refine Kf.ite ?_ ?_
  · skip
    exact Kf.some h2
  · skip
    refine Kf.lt (fun v5 => ?_)
    refine Kf.lt (fun v6 => ?_)
    refine Kf.lt (fun v7 => ?_)
    refine Kf.ite ?_ ?_
    · skip
      exact Kf.some h2
    · skip
      refine Kf.ite ?_ ?_
      · skip
        exact Kf.some h2
      · skip
        refine Kf.ite ?_ ?_
        · skip
          exact Kf.some h2
        · skip
          refine Kf.ite ?_ ?_
          · skip
            refine Kf.ite ?_ ?_
            · skip
              exact (zk_M_pays_83 hW) _ _ _ _ _ h2
            · skip
              exact (zk_M_pays_78 hW) _ _ _ _ h2
          · skip
            exact (zk_M_pays_78 hW) _ _ _ _ h2
def zr_M_earn (g : Nat) (r k i : Int) : Prop := (g = 5 ∧ r = 0 ∧ k = 0 ∧ i = 38) ∨ (g = 9 ∧ r = 0 ∧ k = 0 ∧ i = 4)
theorem zk_M_earn {W : Nat → Int → Int → Int → Prop} {S0 : Sg} (hW : ∀ g r k i, zr_M_earn g r k i → W g r k i) : ∀ (x1 : Int) (S : Sg), Fm W S0 S → Kf W S0 (zf_M_earn x1 S) := by
  intro x1 S h0
  unfold zf_M_earn
  refine Kf.put h0 (hW _ _ _ _ (Or.inr ⟨rfl, rfl, rfl, rfl⟩)) (fun S1 h1 => ?_)
  refine Kf.bd ((zk_M_in (fun _ _ _ _ h => h.elim)) _ _ _ _ h1) (fun a2 S3 h2 => ?_)
  refine Kf.ite ?_ ?_
  · skip
    exact Kf.some h2
  · skip
    refine Kf.ite ?_ ?_
    · skip
      refine Kf.put h2 (hW _ _ _ _ (Or.inl ⟨rfl, rfl, rfl, rfl⟩)) (fun S6 h3 => ?_)
      exact Kf.some h3
    · skip
      exact Kf.some h2
def zr_M_noRow (g : Nat) (r k i : Int) : Prop := False
theorem zk_M_noRow {W : Nat → Int → Int → Int → Prop} {S0 : Sg} (hW : ∀ g r k i, zr_M_noRow g r k i → W g r k i) : ∀ (x1 : Int) (S : Sg), Fm W S0 S → Kf W S0 (zf_M_noRow x1 S) := by
  intro x1 S h0
  unfold zf_M_noRow
  refine Kf.ck ?_
  refine Kf.ite ?_ ?_
  · skip
    exact Kf.some h0
  · skip
    refine Kf.ite ?_ ?_
    · skip
      exact Kf.some h0
    · skip
      exact Kf.some h0
def zr_M_weather (g : Nat) (r k i : Int) : Prop := (g = 5 ∧ r = 0 ∧ k = 32) ∨ (g = 5 ∧ r = 0 ∧ k = 33) ∨ (g = 7 ∧ r = 0) ∨ (g = 9 ∧ r = 0 ∧ k = 0 ∧ i = 4)
theorem zk_M_weather_37 {W : Nat → Int → Int → Int → Prop} {S0 : Sg} (hW : ∀ g r k i, zr_M_weather g r k i → W g r k i) : ∀ (x1 : Int) (xt0 : Int) (S : Sg), Fm W S0 S → Kf W S0 (zf_M_weather_37 x1 xt0 S) := by
  intro x1 xt0 S h0
  unfold zf_M_weather_37
  refine Kf.ck ?_
  refine Kf.ck ?_
  refine Kf.put h0 (hW _ _ _ _ (Or.inl ⟨rfl, rfl, rfl⟩)) (fun S3 h1 => ?_)
  refine Kf.put h1 (hW _ _ _ _ (Or.inr (Or.inl ⟨rfl, rfl, rfl⟩))) (fun S4 h2 => ?_)
  refine Kf.cp h2 (fun j => hW _ _ _ j (Or.inr (Or.inr (Or.inl ⟨rfl, rfl⟩)))) (fun S5 h3 => ?_)
  exact Kf.some h3
theorem zk_M_weather {W : Nat → Int → Int → Int → Prop} {S0 : Sg} (hW : ∀ g r k i, zr_M_weather g r k i → W g r k i) : ∀ (x1 : Int) (x2 : Int) (S : Sg), Fm W S0 S → Kf W S0 (zf_M_weather x1 x2 S) := by
  intro x1 x2 S h0
  unfold zf_M_weather
  refine Kf.put h0 (hW _ _ _ _ (Or.inr (Or.inr (Or.inr ⟨rfl, rfl, rfl, rfl⟩)))) (fun S1 h1 => ?_)
  refine Kf.bd ((zk_M_isShelf (fun _ _ _ _ h => h.elim)) _ _ h1) (fun a2 S3 h2 => ?_)
  refine Kf.ite ?_ ?_
  · skip
    exact Kf.some h2
  · skip
    refine Kf.bd ((zk_M_noRow (fun _ _ _ _ h => h.elim)) _ _ h2) (fun a5 S6 h3 => ?_)
    refine Kf.ite ?_ ?_
    · skip
      refine Kf.ite ?_ ?_
      · skip
        exact (zk_M_weather_37 hW) _ _ _ h3
      · skip
        exact (zk_M_weather_37 hW) _ _ _ h3
    · skip
      refine Kf.bd ((zk_M_noRow (fun _ _ _ _ h => h.elim)) _ _ h3) (fun a9 S10 h4 => ?_)
      exact Kf.some h4
def zr_W_leastOf (r0 : Int) (g : Nat) (r k i : Int) : Prop := False
theorem zk_W_leastOf {W : Nat → Int → Int → Int → Prop} {S0 : Sg} {r0 : Int} (hW : ∀ g r k i, zr_W_leastOf r0 g r k i → W g r k i) : ∀ (x1 : Int) (S : Sg), Fm W S0 S → Kf W S0 (zf_W_leastOf r0 x1 S) := by
  intro x1 S h0
  unfold zf_W_leastOf
  refine Kf.ck ?_
  refine Kf.ite ?_ ?_
  · skip
    exact Kf.some h0
  · skip
    refine Kf.ite ?_ ?_
    · skip
      exact Kf.some h0
    · skip
      exact Kf.some h0
def zr_W_missing (r0 : Int) (g : Nat) (r k i : Int) : Prop := False
theorem zk_W_missing {W : Nat → Int → Int → Int → Prop} {S0 : Sg} {r0 : Int} (hW : ∀ g r k i, zr_W_missing r0 g r k i → W g r k i) : ∀ (x1 : Int) (x2 : Int) (S : Sg), Fm W S0 S → Kf W S0 (zf_W_missing r0 x1 x2 S) := by
  intro x1 x2 S h0
  unfold zf_W_missing
  refine Kf.ck ?_
  refine Kf.ite ?_ ?_
  · skip
    exact Kf.some h0
  · skip
    refine Kf.ck ?_
    refine Kf.bd ((zk_W_leastOf (r0 := (r0)) (fun _ _ _ _ h => h.elim)) _ _ h0) (fun a4 S5 h1 => ?_)
    refine Kf.ite ?_ ?_
    · skip
      exact Kf.some h1
    · skip
      exact Kf.some h1
def zr_W_skyOf (r0 : Int) (g : Nat) (r k i : Int) : Prop := False
theorem zk_W_skyOf_99 {W : Nat → Int → Int → Int → Prop} {S0 : Sg} {r0 : Int} (hW : ∀ g r k i, zr_W_skyOf r0 g r k i → W g r k i) {q46 : Int → Int → Int → Int → Int → Sg → Option (Int × Sg)} (hq46 : ∀ (x0 x1 x2 x3 x4 : Int) (S : Sg), Fm W S0 S → Kf W S0 (q46 x0 x1 x2 x3 x4 S)) : ∀ (x1 : Int) (x2 : Int) (x3 : Int) (x5 : Int) (x6 : Int) (S : Sg), Fm W S0 S → Kf W S0 (zf_W_skyOf_99 r0 q46 x1 x2 x3 x5 x6 S) := by
  intro x1 x2 x3 x5 x6 S h0
  unfold zf_W_skyOf_99
  refine Kf.lt (fun v1 => ?_)
  exact hq46 _ _ _ _ _ _ h0
theorem zk_W_skyOf_46 {W : Nat → Int → Int → Int → Prop} {S0 : Sg} {r0 : Int} (hW : ∀ g r k i, zr_W_skyOf r0 g r k i → W g r k i) : ∀ (n : Nat) (x1 x2 x3 x5 x6 : Int) (S : Sg), Fm W S0 S → Kf W S0 (zf_W_skyOf_46 r0 n x1 x2 x3 x5 x6 S) := by
  intro n
  induction n with
  | zero => intro x1 x2 x3 x5 x6 S h0; exact Kf.none
  | succ n ih =>
    intro x1 x2 x3 x5 x6 S h0
    rw [zf_W_skyOf_46]
    refine Kf.ite ?_ ?_
    · skip
      refine Kf.ite ?_ ?_
      · skip
        exact Kf.some h0
      · skip
        refine Kf.ck ?_
        exact Kf.some h0
    · skip
      refine Kf.ck ?_
      refine Kf.ite ?_ ?_
      · skip
        exact (zk_W_skyOf_99 (r0 := r0) hW ih) _ _ _ _ _ _ h0
      · skip
        refine Kf.bd ((zk_W_missing (r0 := (r0)) (fun _ _ _ _ h => h.elim)) _ _ _ h0) (fun a6 S7 h1 => ?_)
        refine Kf.ite ?_ ?_
        · skip
          refine Kf.ck ?_
          refine Kf.lt (fun v10 => ?_)
          refine Kf.lt (fun v11 => ?_)
          exact (zk_W_skyOf_99 (r0 := r0) hW ih) _ _ _ _ _ _ h1
        · skip
          exact (zk_W_skyOf_99 (r0 := r0) hW ih) _ _ _ _ _ _ h1
theorem zk_W_skyOf {W : Nat → Int → Int → Int → Prop} {S0 : Sg} {r0 : Int} (hW : ∀ g r k i, zr_W_skyOf r0 g r k i → W g r k i) : ∀ (x1 : Int) (x2 : Int) (S : Sg), Fm W S0 S → Kf W S0 (zf_W_skyOf r0 x1 x2 S) := by
  intro x1 x2 S h0
  unfold zf_W_skyOf
  refine Kf.ck ?_
  refine Kf.ite ?_ ?_
  · skip
    refine Kf.bd ((zk_W_missing (r0 := (r0)) (fun _ _ _ _ h => h.elim)) _ _ _ h0) (fun a3 S4 h1 => ?_)
    refine Kf.ite ?_ ?_
    · skip
      refine Kf.ck ?_
      exact Kf.some h1
    · skip
      refine Kf.lt (fun v6 => ?_)
      exact (zk_W_skyOf_46 (r0 := r0) hW) 4096 _ _ _ _ _ _ h1
  · skip
    exact Kf.some h0
def zr_M_sky (g : Nat) (r k i : Int) : Prop := (g = 9 ∧ r = 0 ∧ k = 0 ∧ i = 4)
theorem zk_M_sky_29 {W : Nat → Int → Int → Int → Prop} {S0 : Sg} (hW : ∀ g r k i, zr_M_sky g r k i → W g r k i) : ∀ (x1 : Int) (xt1 : Int) (S : Sg), Fm W S0 S → Kf W S0 (zf_M_sky_29 x1 xt1 S) := by
  intro x1 xt1 S h0
  unfold zf_M_sky_29
  refine Kf.bd ((zk_W_skyOf (r0 := (0)) (fun _ _ _ _ h => h.elim)) _ _ _ h0) (fun a1 S2 h1 => ?_)
  exact Kf.some h1
theorem zk_M_sky {W : Nat → Int → Int → Int → Prop} {S0 : Sg} (hW : ∀ g r k i, zr_M_sky g r k i → W g r k i) : ∀ (x1 : Int) (x2 : Int) (S : Sg), Fm W S0 S → Kf W S0 (zf_M_sky x1 x2 S) := by
  intro x1 x2 S h0
  unfold zf_M_sky
  refine Kf.put h0 (hW _ _ _ _ ⟨rfl, rfl, rfl, rfl⟩) (fun S1 h1 => ?_)
  refine Kf.bd ((zk_M_in (fun _ _ _ _ h => h.elim)) _ _ _ _ h1) (fun a2 S3 h2 => ?_)
  refine Kf.ite ?_ ?_
  · skip
    exact Kf.some h2
  · skip
    refine Kf.ite ?_ ?_
    · skip
      exact (zk_M_sky_29 hW) _ _ _ h2
    · skip
      exact (zk_M_sky_29 hW) _ _ _ h2
def zr_W_inState (r0 : Int) (g : Nat) (r k i : Int) : Prop := False
theorem zk_W_inState_28 {W : Nat → Int → Int → Int → Prop} {S0 : Sg} {r0 : Int} (hW : ∀ g r k i, zr_W_inState r0 g r k i → W g r k i) {q4 : Int → Int → Int → Sg → Option (Int × Sg)} (hq4 : ∀ (x0 x1 x2 : Int) (S : Sg), Fm W S0 S → Kf W S0 (q4 x0 x1 x2 S)) : ∀ (x1 : Int) (x3 : Int) (xt0 : Int) (xt1 : Int) (S : Sg), Fm W S0 S → Kf W S0 (zf_W_inState_28 r0 q4 x1 x3 xt0 xt1 S) := by
  intro x1 x3 xt0 xt1 S h0
  unfold zf_W_inState_28
  refine Kf.lt (fun v1 => ?_)
  refine Kf.lt (fun v2 => ?_)
  exact hq4 _ _ _ _ h0
theorem zk_W_inState_4 {W : Nat → Int → Int → Int → Prop} {S0 : Sg} {r0 : Int} (hW : ∀ g r k i, zr_W_inState r0 g r k i → W g r k i) : ∀ (n : Nat) (x1 x2 x3 : Int) (S : Sg), Fm W S0 S → Kf W S0 (zf_W_inState_4 r0 n x1 x2 x3 S) := by
  intro n
  induction n with
  | zero => intro x1 x2 x3 S h0; exact Kf.none
  | succ n ih =>
    intro x1 x2 x3 S h0
    rw [zf_W_inState_4]
    refine Kf.ite ?_ ?_
    · skip
      exact Kf.some h0
    · skip
      refine Kf.ck ?_
      refine Kf.ite ?_ ?_
      · skip
        exact (zk_W_inState_28 (r0 := r0) hW ih) _ _ _ _ _ h0
      · skip
        exact (zk_W_inState_28 (r0 := r0) hW ih) _ _ _ _ _ h0
theorem zk_W_inState {W : Nat → Int → Int → Int → Prop} {S0 : Sg} {r0 : Int} (hW : ∀ g r k i, zr_W_inState r0 g r k i → W g r k i) : ∀ (x1 : Int) (S : Sg), Fm W S0 S → Kf W S0 (zf_W_inState r0 x1 S) := by
  intro x1 S h0
  unfold zf_W_inState
  exact (zk_W_inState_4 (r0 := r0) hW) 4096 _ _ _ _ h0
def zr_W_eat (r0 : Int) (g : Nat) (r k i : Int) : Prop := (g = 5 ∧ r = r0 ∧ k = 0 ∧ i = 47) ∨ (g = 5 ∧ r = r0 ∧ k = 0 ∧ i = 48) ∨ (g = 5 ∧ r = r0 ∧ k = 0 ∧ i = 49) ∨ (g = 5 ∧ r = r0 ∧ k = 25) ∨ (g = 5 ∧ r = r0 ∧ k = 34) ∨ (g = 5 ∧ r = r0 ∧ k = 35) ∨ (g = 5 ∧ r = r0 ∧ k = 39) ∨ (g = 5 ∧ r = r0 ∧ k = 40) ∨ (g = 5 ∧ r = r0 ∧ k = 9)
theorem zk_W_eat_431 {W : Nat → Int → Int → Int → Prop} {S0 : Sg} {r0 : Int} (hW : ∀ g r k i, zr_W_eat r0 g r k i → W g r k i) {q386 : Int → Sg → Option (Int × Sg)} (hq386 : ∀ (x0 : Int) (S : Sg), Fm W S0 S → Kf W S0 (q386 x0 S)) : ∀ (x5 : Int) (xt1 : Int) (xt2 : Int) (S : Sg), Fm W S0 S → Kf W S0 (zf_W_eat_431 r0 q386 x5 xt1 xt2 S) := by
  intro x5 xt1 xt2 S h0
  unfold zf_W_eat_431
  refine Kf.ck ?_
  refine Kf.put h0 (hW _ _ _ _ (Or.inr (Or.inr (Or.inr (Or.inr (Or.inr (Or.inr (Or.inr (Or.inr ⟨rfl, rfl, rfl⟩))))))))) (fun S2 h1 => ?_)
  refine Kf.lt (fun v3 => ?_)
  exact hq386 _ _ h1
theorem zk_W_eat_430 {W : Nat → Int → Int → Int → Prop} {S0 : Sg} {r0 : Int} (hW : ∀ g r k i, zr_W_eat r0 g r k i → W g r k i) {q386 : Int → Sg → Option (Int × Sg)} (hq386 : ∀ (x0 : Int) (S : Sg), Fm W S0 S → Kf W S0 (q386 x0 S)) : ∀ (x5 : Int) (xt1 : Int) (S : Sg), Fm W S0 S → Kf W S0 (zf_W_eat_430 r0 q386 x5 xt1 S) := by
  intro x5 xt1 S h0
  unfold zf_W_eat_430
  exact (zk_W_eat_431 (r0 := r0) hW hq386) _ _ _ _ h0
theorem zk_W_eat_386 {W : Nat → Int → Int → Int → Prop} {S0 : Sg} {r0 : Int} (hW : ∀ g r k i, zr_W_eat r0 g r k i → W g r k i) : ∀ (n : Nat) (x5 : Int) (S : Sg), Fm W S0 S → Kf W S0 (zf_W_eat_386 r0 n x5 S) := by
  intro n
  induction n with
  | zero => intro x5 S h0; exact Kf.none
  | succ n ih =>
    intro x5 S h0
    rw [zf_W_eat_386]
    refine Kf.ite ?_ ?_
    · skip
      exact Kf.some h0
    · skip
      refine Kf.bd ((zk_W_here (r0 := (r0)) (fun _ _ _ _ h => h.elim)) _ _ h0) (fun a2 S3 h1 => ?_)
      refine Kf.ite ?_ ?_
      · skip
        exact (zk_W_eat_430 (r0 := r0) hW ih) _ _ _ h1
      · skip
        refine Kf.ck ?_
        refine Kf.bd ((zk_W_needOf (r0 := (r0)) (fun _ _ _ _ h => h.elim)) _ _ h1) (fun a6 S7 h2 => ?_)
        refine Kf.ite ?_ ?_
        · skip
          exact (zk_W_eat_430 (r0 := r0) hW ih) _ _ _ h2
        · skip
          exact (zk_W_eat_431 (r0 := r0) hW ih) _ _ _ _ h2
theorem zk_W_eat_370 {W : Nat → Int → Int → Int → Prop} {S0 : Sg} {r0 : Int} (hW : ∀ g r k i, zr_W_eat r0 g r k i → W g r k i) {q308 : Int → Int → Sg → Option (Int × Sg)} (hq308 : ∀ (x0 x1 : Int) (S : Sg), Fm W S0 S → Kf W S0 (q308 x0 x1 S)) : ∀ (x3 : Int) (x5 : Int) (S : Sg), Fm W S0 S → Kf W S0 (zf_W_eat_370 r0 q308 x3 x5 S) := by
  intro x3 x5 S h0
  unfold zf_W_eat_370
  refine Kf.lt (fun v1 => ?_)
  exact hq308 _ _ _ h0
theorem zk_W_eat_308 {W : Nat → Int → Int → Int → Prop} {S0 : Sg} {r0 : Int} (hW : ∀ g r k i, zr_W_eat r0 g r k i → W g r k i) : ∀ (n : Nat) (x3 x5 : Int) (S : Sg), Fm W S0 S → Kf W S0 (zf_W_eat_308 r0 n x3 x5 S) := by
  intro n
  induction n with
  | zero => intro x3 x5 S h0; exact Kf.none
  | succ n ih =>
    intro x3 x5 S h0
    rw [zf_W_eat_308]
    refine Kf.ite ?_ ?_
    · skip
      refine Kf.put h0 (hW _ _ _ _ (Or.inr (Or.inr (Or.inr (Or.inl ⟨rfl, rfl, rfl⟩))))) (fun S2 h1 => ?_)
      exact (zk_W_eat_386 (r0 := r0) hW) 4096 _ _ h1
    · skip
      refine Kf.bd ((zk_W_here (r0 := (r0)) (fun _ _ _ _ h => h.elim)) _ _ h0) (fun a3 S4 h2 => ?_)
      refine Kf.ite ?_ ?_
      · skip
        exact (zk_W_eat_370 (r0 := r0) hW ih) _ _ _ h2
      · skip
        refine Kf.ck ?_
        refine Kf.ite ?_ ?_
        · skip
          refine Kf.ite ?_ ?_
          · skip
            exact (zk_W_eat_370 (r0 := r0) hW ih) _ _ _ h2
          · skip
            refine Kf.bd ((zk_W_needOf (r0 := (r0)) (fun _ _ _ _ h => h.elim)) _ _ h2) (fun a9 S10 h3 => ?_)
            refine Kf.ite ?_ ?_
            · skip
              exact (zk_W_eat_370 (r0 := r0) hW ih) _ _ _ h3
            · skip
              refine Kf.put h3 (hW _ _ _ _ (Or.inr (Or.inr (Or.inr (Or.inr (Or.inr (Or.inr (Or.inl ⟨rfl, rfl, rfl⟩)))))))) (fun S13 h4 => ?_)
              refine Kf.lt (fun v14 => ?_)
              exact (zk_W_eat_370 (r0 := r0) hW ih) _ _ _ h4
        · skip
          exact (zk_W_eat_370 (r0 := r0) hW ih) _ _ _ h2
theorem zk_W_eat_299 {W : Nat → Int → Int → Int → Prop} {S0 : Sg} {r0 : Int} (hW : ∀ g r k i, zr_W_eat r0 g r k i → W g r k i) {q243 : Int → Int → Int → Sg → Option (Int × Sg)} (hq243 : ∀ (x0 x1 x2 : Int) (S : Sg), Fm W S0 S → Kf W S0 (q243 x0 x1 x2 S)) : ∀ (x3 : Int) (x4 : Int) (x5 : Int) (S : Sg), Fm W S0 S → Kf W S0 (zf_W_eat_299 r0 q243 x3 x4 x5 S) := by
  intro x3 x4 x5 S h0
  unfold zf_W_eat_299
  refine Kf.lt (fun v1 => ?_)
  exact hq243 _ _ _ _ h0
theorem zk_W_eat_243 {W : Nat → Int → Int → Int → Prop} {S0 : Sg} {r0 : Int} (hW : ∀ g r k i, zr_W_eat r0 g r k i → W g r k i) : ∀ (n : Nat) (x3 x4 x5 : Int) (S : Sg), Fm W S0 S → Kf W S0 (zf_W_eat_243 r0 n x3 x4 x5 S) := by
  intro n
  induction n with
  | zero => intro x3 x4 x5 S h0; exact Kf.none
  | succ n ih =>
    intro x3 x4 x5 S h0
    rw [zf_W_eat_243]
    refine Kf.ite ?_ ?_
    · skip
      exact (zk_W_eat_308 (r0 := r0) hW) 4096 _ _ _ h0
    · skip
      refine Kf.bd ((zk_W_here (r0 := (r0)) (fun _ _ _ _ h => h.elim)) _ _ h0) (fun a2 S3 h1 => ?_)
      refine Kf.ite ?_ ?_
      · skip
        exact (zk_W_eat_299 (r0 := r0) hW ih) _ _ _ _ h1
      · skip
        refine Kf.ck ?_
        refine Kf.ite ?_ ?_
        · skip
          refine Kf.bd ((zk_W_needOf (r0 := (r0)) (fun _ _ _ _ h => h.elim)) _ _ h1) (fun a7 S8 h2 => ?_)
          refine Kf.put h2 (hW _ _ _ _ (Or.inr (Or.inr (Or.inr (Or.inr (Or.inr (Or.inr (Or.inl ⟨rfl, rfl, rfl⟩)))))))) (fun S9 h3 => ?_)
          refine Kf.lt (fun v10 => ?_)
          exact (zk_W_eat_299 (r0 := r0) hW ih) _ _ _ _ h3
        · skip
          exact (zk_W_eat_299 (r0 := r0) hW ih) _ _ _ _ h1
theorem zk_W_eat_238 {W : Nat → Int → Int → Int → Prop} {S0 : Sg} {r0 : Int} (hW : ∀ g r k i, zr_W_eat r0 g r k i → W g r k i) : ∀ (x3 : Int) (xt0 : Int) (S : Sg), Fm W S0 S → Kf W S0 (zf_W_eat_238 r0 x3 xt0 S) := by
  intro x3 xt0 S h0
  unfold zf_W_eat_238
  exact (zk_W_eat_243 (r0 := r0) hW) 4096 _ _ _ _ h0
theorem zk_W_eat_221 {W : Nat → Int → Int → Int → Prop} {S0 : Sg} {r0 : Int} (hW : ∀ g r k i, zr_W_eat r0 g r k i → W g r k i) {q174 : Int → Int → Int → Sg → Option (Int × Sg)} (hq174 : ∀ (x0 x1 x2 : Int) (S : Sg), Fm W S0 S → Kf W S0 (q174 x0 x1 x2 S)) : ∀ (x2 : Int) (x3 : Int) (x4 : Int) (S : Sg), Fm W S0 S → Kf W S0 (zf_W_eat_221 r0 q174 x2 x3 x4 S) := by
  intro x2 x3 x4 S h0
  unfold zf_W_eat_221
  refine Kf.lt (fun v1 => ?_)
  exact hq174 _ _ _ _ h0
theorem zk_W_eat_174 {W : Nat → Int → Int → Int → Prop} {S0 : Sg} {r0 : Int} (hW : ∀ g r k i, zr_W_eat r0 g r k i → W g r k i) : ∀ (n : Nat) (x2 x3 x4 : Int) (S : Sg), Fm W S0 S → Kf W S0 (zf_W_eat_174 r0 n x2 x3 x4 S) := by
  intro n
  induction n with
  | zero => intro x2 x3 x4 S h0; exact Kf.none
  | succ n ih =>
    intro x2 x3 x4 S h0
    rw [zf_W_eat_174]
    refine Kf.ite ?_ ?_
    · skip
      refine Kf.ite ?_ ?_
      · skip
        exact (zk_W_eat_238 (r0 := r0) hW) _ _ _ h0
      · skip
        refine Kf.ck ?_
        exact (zk_W_eat_238 (r0 := r0) hW) _ _ _ h0
    · skip
      refine Kf.ck ?_
      refine Kf.ite ?_ ?_
      · skip
        refine Kf.bd ((zk_W_needOf (r0 := (r0)) (fun _ _ _ _ h => h.elim)) _ _ h0) (fun a6 S7 h1 => ?_)
        refine Kf.put h1 (hW _ _ _ _ (Or.inr (Or.inr (Or.inr (Or.inr (Or.inr (Or.inr (Or.inl ⟨rfl, rfl, rfl⟩)))))))) (fun S8 h2 => ?_)
        refine Kf.lt (fun v9 => ?_)
        exact (zk_W_eat_221 (r0 := r0) hW ih) _ _ _ _ h2
      · skip
        exact (zk_W_eat_221 (r0 := r0) hW ih) _ _ _ _ h0
theorem zk_W_eat_156 {W : Nat → Int → Int → Int → Prop} {S0 : Sg} {r0 : Int} (hW : ∀ g r k i, zr_W_eat r0 g r k i → W g r k i) {q97 : Int → Int → Sg → Option (Int × Sg)} (hq97 : ∀ (x0 x1 : Int) (S : Sg), Fm W S0 S → Kf W S0 (q97 x0 x1 S)) : ∀ (x3 : Int) (xt0 : Int) (xt1 : Int) (S : Sg), Fm W S0 S → Kf W S0 (zf_W_eat_156 r0 q97 x3 xt0 xt1 S) := by
  intro x3 xt0 xt1 S h0
  unfold zf_W_eat_156
  refine Kf.lt (fun v1 => ?_)
  refine Kf.lt (fun v2 => ?_)
  exact hq97 _ _ _ h0
theorem zk_W_eat_155 {W : Nat → Int → Int → Int → Prop} {S0 : Sg} {r0 : Int} (hW : ∀ g r k i, zr_W_eat r0 g r k i → W g r k i) {q97 : Int → Int → Sg → Option (Int × Sg)} (hq97 : ∀ (x0 x1 : Int) (S : Sg), Fm W S0 S → Kf W S0 (q97 x0 x1 S)) : ∀ (x3 : Int) (xt0 : Int) (S : Sg), Fm W S0 S → Kf W S0 (zf_W_eat_155 r0 q97 x3 xt0 S) := by
  intro x3 xt0 S h0
  unfold zf_W_eat_155
  exact (zk_W_eat_156 (r0 := r0) hW hq97) _ _ _ _ h0
theorem zk_W_eat_132 {W : Nat → Int → Int → Int → Prop} {S0 : Sg} {r0 : Int} (hW : ∀ g r k i, zr_W_eat r0 g r k i → W g r k i) {q97 : Int → Int → Sg → Option (Int × Sg)} (hq97 : ∀ (x0 x1 : Int) (S : Sg), Fm W S0 S → Kf W S0 (q97 x0 x1 S)) : ∀ (x2 : Int) (x3 : Int) (xt1 : Int) (xt2 : Int) (S : Sg), Fm W S0 S → Kf W S0 (zf_W_eat_132 r0 q97 x2 x3 xt1 xt2 S) := by
  intro x2 x3 xt1 xt2 S h0
  unfold zf_W_eat_132
  refine Kf.ck ?_
  refine Kf.put h0 (hW _ _ _ _ (Or.inr (Or.inr (Or.inr (Or.inr (Or.inr (Or.inr (Or.inr (Or.inl ⟨rfl, rfl, rfl⟩))))))))) (fun S2 h1 => ?_)
  refine Kf.bd ((zk_W_here (r0 := (r0)) (fun _ _ _ _ h => h.elim)) _ _ h1) (fun a3 S4 h2 => ?_)
  refine Kf.ite ?_ ?_
  · skip
    exact (zk_W_eat_155 (r0 := r0) hW hq97) _ _ _ h2
  · skip
    refine Kf.ck ?_
    refine Kf.ite ?_ ?_
    · skip
      exact (zk_W_eat_156 (r0 := r0) hW hq97) _ _ _ _ h2
    · skip
      exact (zk_W_eat_155 (r0 := r0) hW hq97) _ _ _ h2
theorem zk_W_eat_131 {W : Nat → Int → Int → Int → Prop} {S0 : Sg} {r0 : Int} (hW : ∀ g r k i, zr_W_eat r0 g r k i → W g r k i) {q97 : Int → Int → Sg → Option (Int × Sg)} (hq97 : ∀ (x0 x1 : Int) (S : Sg), Fm W S0 S → Kf W S0 (q97 x0 x1 S)) : ∀ (x2 : Int) (x3 : Int) (xt1 : Int) (S : Sg), Fm W S0 S → Kf W S0 (zf_W_eat_131 r0 q97 x2 x3 xt1 S) := by
  intro x2 x3 xt1 S h0
  unfold zf_W_eat_131
  exact (zk_W_eat_132 (r0 := r0) hW hq97) _ _ _ _ _ h0
theorem zk_W_eat_97 {W : Nat → Int → Int → Int → Prop} {S0 : Sg} {r0 : Int} (hW : ∀ g r k i, zr_W_eat r0 g r k i → W g r k i) : ∀ (n : Nat) (x2 x3 : Int) (S : Sg), Fm W S0 S → Kf W S0 (zf_W_eat_97 r0 n x2 x3 S) := by
  intro n
  induction n with
  | zero => intro x2 x3 S h0; exact Kf.none
  | succ n ih =>
    intro x2 x3 S h0
    rw [zf_W_eat_97]
    refine Kf.ite ?_ ?_
    · skip
      refine Kf.lt (fun v2 => ?_)
      exact (zk_W_eat_174 (r0 := r0) hW) 4096 _ _ _ _ h0
    · skip
      refine Kf.bd ((zk_W_here (r0 := (r0)) (fun _ _ _ _ h => h.elim)) _ _ h0) (fun a3 S4 h2 => ?_)
      refine Kf.ite ?_ ?_
      · skip
        exact (zk_W_eat_131 (r0 := r0) hW ih) _ _ _ _ h2
      · skip
        refine Kf.bd ((zk_W_may (r0 := (r0)) (fun g r k i h => hW g r k i (Or.elim h (fun h => (Or.inl ⟨h.1, h.2.1, h.2.2.1, h.2.2.2⟩)) (fun h => (Or.elim h (fun h => (Or.inr (Or.inl ⟨h.1, h.2.1, h.2.2.1, h.2.2.2⟩))) (fun h => (Or.elim h (fun h => (Or.inr (Or.inr (Or.inl ⟨h.1, h.2.1, h.2.2.1, h.2.2.2⟩)))) (fun h => (Or.inr (Or.inr (Or.inr (Or.inr (Or.inr (Or.inl ⟨h.1, h.2.1, h.2.2⟩)))))))))))))) _ _ _ h2) (fun a6 S7 h3 => ?_)
        refine Kf.ite ?_ ?_
        · skip
          exact (zk_W_eat_131 (r0 := r0) hW ih) _ _ _ _ h3
        · skip
          exact (zk_W_eat_132 (r0 := r0) hW ih) _ _ _ _ _ h3
theorem zk_W_eat_72 {W : Nat → Int → Int → Int → Prop} {S0 : Sg} {r0 : Int} (hW : ∀ g r k i, zr_W_eat r0 g r k i → W g r k i) : ∀ (x1 : Int) (xt1 : Int) (xt2 : Int) (S : Sg), Fm W S0 S → Kf W S0 (zf_W_eat_72 r0 x1 xt1 xt2 S) := by
  intro x1 xt1 xt2 S h0
  unfold zf_W_eat_72
  refine Kf.ck ?_
  refine Kf.put h0 (hW _ _ _ _ (Or.inr (Or.inr (Or.inr (Or.inr (Or.inl ⟨rfl, rfl, rfl⟩)))))) (fun S2 h1 => ?_)
  refine Kf.ite ?_ ?_
  · skip
    refine Kf.put h1 (hW _ _ _ _ (Or.inr (Or.inr (Or.inr (Or.inl ⟨rfl, rfl, rfl⟩))))) (fun S4 h2 => ?_)
    exact Kf.some h2
  · skip
    exact (zk_W_eat_97 (r0 := r0) hW) 4096 _ _ _ h1
theorem zk_W_eat_30 {W : Nat → Int → Int → Int → Prop} {S0 : Sg} {r0 : Int} (hW : ∀ g r k i, zr_W_eat r0 g r k i → W g r k i) {q4 : Int → Int → Sg → Option (Int × Sg)} (hq4 : ∀ (x0 x1 : Int) (S : Sg), Fm W S0 S → Kf W S0 (q4 x0 x1 S)) : ∀ (x2 : Int) (xt0 : Int) (xt1 : Int) (S : Sg), Fm W S0 S → Kf W S0 (zf_W_eat_30 r0 q4 x2 xt0 xt1 S) := by
  intro x2 xt0 xt1 S h0
  unfold zf_W_eat_30
  refine Kf.lt (fun v1 => ?_)
  refine Kf.ck ?_
  refine Kf.put h0 (hW _ _ _ _ (Or.inr (Or.inr (Or.inr (Or.inr (Or.inr (Or.inr (Or.inr (Or.inr ⟨rfl, rfl, rfl⟩))))))))) (fun S3 h2 => ?_)
  refine Kf.put h2 (hW _ _ _ _ (Or.inr (Or.inr (Or.inr (Or.inr (Or.inr (Or.inr (Or.inl ⟨rfl, rfl, rfl⟩)))))))) (fun S4 h3 => ?_)
  refine Kf.lt (fun v5 => ?_)
  exact hq4 _ _ _ h3
theorem zk_W_eat_4 {W : Nat → Int → Int → Int → Prop} {S0 : Sg} {r0 : Int} (hW : ∀ g r k i, zr_W_eat r0 g r k i → W g r k i) : ∀ (n : Nat) (x1 x2 : Int) (S : Sg), Fm W S0 S → Kf W S0 (zf_W_eat_4 r0 n x1 x2 S) := by
  intro n
  induction n with
  | zero => intro x1 x2 S h0; exact Kf.none
  | succ n ih =>
    intro x1 x2 S h0
    rw [zf_W_eat_4]
    refine Kf.ite ?_ ?_
    · skip
      refine Kf.ite ?_ ?_
      · skip
        exact (zk_W_eat_72 (r0 := r0) hW) _ _ _ _ h0
      · skip
        exact (zk_W_eat_72 (r0 := r0) hW) _ _ _ _ h0
    · skip
      refine Kf.bd ((zk_W_here (r0 := (r0)) (fun _ _ _ _ h => h.elim)) _ _ h0) (fun a3 S4 h1 => ?_)
      refine Kf.ite ?_ ?_
      · skip
        exact (zk_W_eat_30 (r0 := r0) hW ih) _ _ _ _ h1
      · skip
        refine Kf.bd ((zk_W_needOf (r0 := (r0)) (fun _ _ _ _ h => h.elim)) _ _ h1) (fun a6 S7 h2 => ?_)
        exact (zk_W_eat_30 (r0 := r0) hW ih) _ _ _ _ h2
theorem zk_W_eat {W : Nat → Int → Int → Int → Prop} {S0 : Sg} {r0 : Int} (hW : ∀ g r k i, zr_W_eat r0 g r k i → W g r k i) : ∀ (S : Sg), Fm W S0 S → Kf W S0 (zf_W_eat r0 S) := by
  intro S h0
  unfold zf_W_eat
  exact (zk_W_eat_4 (r0 := r0) hW) 4096 _ _ _ h0
def zr_W_graze (r0 : Int) (g : Nat) (r k i : Int) : Prop := (g = 5 ∧ r = r0 ∧ k = 0 ∧ i = 15) ∨ (g = 5 ∧ r = r0 ∧ k = 10) ∨ (g = 5 ∧ r = r0 ∧ k = 25)
theorem zk_W_graze_67 {W : Nat → Int → Int → Int → Prop} {S0 : Sg} {r0 : Int} (hW : ∀ g r k i, zr_W_graze r0 g r k i → W g r k i) {q2 : Int → Sg → Option (Int × Sg)} (hq2 : ∀ (x0 : Int) (S : Sg), Fm W S0 S → Kf W S0 (q2 x0 S)) {q12 : Int → Int → Int → Sg → Option (Int × Sg)} (hq12 : ∀ (x0 x1 x2 : Int) (S : Sg), Fm W S0 S → Kf W S0 (q12 x0 x1 x2 S)) : ∀ (x1 : Int) (x2 : Int) (x3 : Int) (S : Sg), Fm W S0 S → Kf W S0 (zf_W_graze_67 r0 q2 q12 x1 x2 x3 S) := by
  intro x1 x2 x3 S h0
  unfold zf_W_graze_67
  refine Kf.lt (fun v1 => ?_)
  exact hq12 _ _ _ _ h0
theorem zk_W_graze_12 {W : Nat → Int → Int → Int → Prop} {S0 : Sg} {r0 : Int} (hW : ∀ g r k i, zr_W_graze r0 g r k i → W g r k i) {q2 : Int → Sg → Option (Int × Sg)} (hq2 : ∀ (x0 : Int) (S : Sg), Fm W S0 S → Kf W S0 (q2 x0 S)) : ∀ (n : Nat) (x1 x2 x3 : Int) (S : Sg), Fm W S0 S → Kf W S0 (zf_W_graze_12 r0 q2 n x1 x2 x3 S) := by
  intro n
  induction n with
  | zero => intro x1 x2 x3 S h0; exact Kf.none
  | succ n ih =>
    intro x1 x2 x3 S h0
    rw [zf_W_graze_12]
    refine Kf.ck ?_
    refine Kf.ite ?_ ?_
    · skip
      refine Kf.put h0 (hW _ _ _ _ (Or.inr (Or.inl ⟨rfl, rfl, rfl⟩))) (fun S3 h1 => ?_)
      refine Kf.lt (fun v4 => ?_)
      exact hq2 _ _ h1
    · skip
      refine Kf.ite ?_ ?_
      · skip
        refine Kf.ite ?_ ?_
        · skip
          refine Kf.lt (fun v7 => ?_)
          exact (zk_W_graze_67 (r0 := r0) hW hq2 ih) _ _ _ _ h0
        · skip
          refine Kf.put h0 (hW _ _ _ _ (Or.inr (Or.inr ⟨rfl, rfl, rfl⟩))) (fun S8 h4 => ?_)
          exact (zk_W_graze_67 (r0 := r0) hW hq2 ih) _ _ _ _ h4
      · skip
        refine Kf.put h0 (hW _ _ _ _ (Or.inl ⟨rfl, rfl, rfl, rfl⟩)) (fun S9 h5 => ?_)
        exact (zk_W_graze_67 (r0 := r0) hW hq2 ih) _ _ _ _ h5
theorem zk_W_graze_2 {W : Nat → Int → Int → Int → Prop} {S0 : Sg} {r0 : Int} (hW : ∀ g r k i, zr_W_graze r0 g r k i → W g r k i) : ∀ (n : Nat) (x1 : Int) (S : Sg), Fm W S0 S → Kf W S0 (zf_W_graze_2 r0 n x1 S) := by
  intro n
  induction n with
  | zero => intro x1 S h0; exact Kf.none
  | succ n ih =>
    intro x1 S h0
    rw [zf_W_graze_2]
    refine Kf.ite ?_ ?_
    · skip
      exact Kf.some h0
    · skip
      exact (zk_W_graze_12 (r0 := r0) hW ih) 4096 _ _ _ _ h0
theorem zk_W_graze {W : Nat → Int → Int → Int → Prop} {S0 : Sg} {r0 : Int} (hW : ∀ g r k i, zr_W_graze r0 g r k i → W g r k i) : ∀ (S : Sg), Fm W S0 S → Kf W S0 (zf_W_graze r0 S) := by
  intro S h0
  unfold zf_W_graze
  exact (zk_W_graze_2 (r0 := r0) hW) 4096 _ _ h0
def zr_W_anyFilled (r0 : Int) (g : Nat) (r k i : Int) : Prop := False
theorem zk_W_anyFilled_31 {W : Nat → Int → Int → Int → Prop} {S0 : Sg} {r0 : Int} (hW : ∀ g r k i, zr_W_anyFilled r0 g r k i → W g r k i) {q2 : Int → Int → Sg → Option (Int × Sg)} (hq2 : ∀ (x0 x1 : Int) (S : Sg), Fm W S0 S → Kf W S0 (q2 x0 x1 S)) : ∀ (x1 : Int) (x2 : Int) (S : Sg), Fm W S0 S → Kf W S0 (zf_W_anyFilled_31 r0 q2 x1 x2 S) := by
  intro x1 x2 S h0
  unfold zf_W_anyFilled_31
  refine Kf.lt (fun v1 => ?_)
  exact hq2 _ _ _ h0
theorem zk_W_anyFilled_2 {W : Nat → Int → Int → Int → Prop} {S0 : Sg} {r0 : Int} (hW : ∀ g r k i, zr_W_anyFilled r0 g r k i → W g r k i) : ∀ (n : Nat) (x1 x2 : Int) (S : Sg), Fm W S0 S → Kf W S0 (zf_W_anyFilled_2 r0 n x1 x2 S) := by
  intro n
  induction n with
  | zero => intro x1 x2 S h0; exact Kf.none
  | succ n ih =>
    intro x1 x2 S h0
    rw [zf_W_anyFilled_2]
    refine Kf.ite ?_ ?_
    · skip
      exact Kf.some h0
    · skip
      refine Kf.ck ?_
      refine Kf.ite ?_ ?_
      · skip
        exact (zk_W_anyFilled_31 (r0 := r0) hW ih) _ _ _ h0
      · skip
        refine Kf.ite ?_ ?_
        · skip
          exact Kf.some h0
        · skip
          exact (zk_W_anyFilled_31 (r0 := r0) hW ih) _ _ _ h0
theorem zk_W_anyFilled {W : Nat → Int → Int → Int → Prop} {S0 : Sg} {r0 : Int} (hW : ∀ g r k i, zr_W_anyFilled r0 g r k i → W g r k i) : ∀ (x1 : Int) (S : Sg), Fm W S0 S → Kf W S0 (zf_W_anyFilled r0 x1 S) := by
  intro x1 S h0
  unfold zf_W_anyFilled
  exact (zk_W_anyFilled_2 (r0 := r0) hW) 4096 _ _ _ h0
def zr_W_isMother (r0 : Int) (g : Nat) (r k i : Int) : Prop := False
theorem zk_W_isMother_31 {W : Nat → Int → Int → Int → Prop} {S0 : Sg} {r0 : Int} (hW : ∀ g r k i, zr_W_isMother r0 g r k i → W g r k i) {q2 : Int → Int → Sg → Option (Int × Sg)} (hq2 : ∀ (x0 x1 : Int) (S : Sg), Fm W S0 S → Kf W S0 (q2 x0 x1 S)) : ∀ (x1 : Int) (x2 : Int) (S : Sg), Fm W S0 S → Kf W S0 (zf_W_isMother_31 r0 q2 x1 x2 S) := by
  intro x1 x2 S h0
  unfold zf_W_isMother_31
  refine Kf.lt (fun v1 => ?_)
  exact hq2 _ _ _ h0
theorem zk_W_isMother_2 {W : Nat → Int → Int → Int → Prop} {S0 : Sg} {r0 : Int} (hW : ∀ g r k i, zr_W_isMother r0 g r k i → W g r k i) : ∀ (n : Nat) (x1 x2 : Int) (S : Sg), Fm W S0 S → Kf W S0 (zf_W_isMother_2 r0 n x1 x2 S) := by
  intro n
  induction n with
  | zero => intro x1 x2 S h0; exact Kf.none
  | succ n ih =>
    intro x1 x2 S h0
    rw [zf_W_isMother_2]
    refine Kf.ite ?_ ?_
    · skip
      exact Kf.some h0
    · skip
      refine Kf.ck ?_
      refine Kf.ite ?_ ?_
      · skip
        refine Kf.bd ((zk_W_kind (r0 := (r0)) (fun _ _ _ _ h => h.elim)) _ _ h0) (fun a4 S5 h1 => ?_)
        refine Kf.ite ?_ ?_
        · skip
          exact Kf.some h1
        · skip
          exact (zk_W_isMother_31 (r0 := r0) hW ih) _ _ _ h1
      · skip
        exact (zk_W_isMother_31 (r0 := r0) hW ih) _ _ _ h0
theorem zk_W_isMother {W : Nat → Int → Int → Int → Prop} {S0 : Sg} {r0 : Int} (hW : ∀ g r k i, zr_W_isMother r0 g r k i → W g r k i) : ∀ (x1 : Int) (S : Sg), Fm W S0 S → Kf W S0 (zf_W_isMother r0 x1 S) := by
  intro x1 S h0
  unfold zf_W_isMother
  exact (zk_W_isMother_2 (r0 := r0) hW) 4096 _ _ _ h0
def zr_W_oldIn (r0 : Int) (g : Nat) (r k i : Int) : Prop := False
theorem zk_W_oldIn_31 {W : Nat → Int → Int → Int → Prop} {S0 : Sg} {r0 : Int} (hW : ∀ g r k i, zr_W_oldIn r0 g r k i → W g r k i) {q2 : Int → Int → Sg → Option (Int × Sg)} (hq2 : ∀ (x0 x1 : Int) (S : Sg), Fm W S0 S → Kf W S0 (q2 x0 x1 S)) : ∀ (x1 : Int) (x2 : Int) (S : Sg), Fm W S0 S → Kf W S0 (zf_W_oldIn_31 r0 q2 x1 x2 S) := by
  intro x1 x2 S h0
  unfold zf_W_oldIn_31
  refine Kf.lt (fun v1 => ?_)
  exact hq2 _ _ _ h0
theorem zk_W_oldIn_2 {W : Nat → Int → Int → Int → Prop} {S0 : Sg} {r0 : Int} (hW : ∀ g r k i, zr_W_oldIn r0 g r k i → W g r k i) : ∀ (n : Nat) (x1 x2 : Int) (S : Sg), Fm W S0 S → Kf W S0 (zf_W_oldIn_2 r0 n x1 x2 S) := by
  intro n
  induction n with
  | zero => intro x1 x2 S h0; exact Kf.none
  | succ n ih =>
    intro x1 x2 S h0
    rw [zf_W_oldIn_2]
    refine Kf.ite ?_ ?_
    · skip
      exact Kf.some h0
    · skip
      refine Kf.bd ((zk_W_kind (r0 := (r0)) (fun _ _ _ _ h => h.elim)) _ _ h0) (fun a2 S3 h1 => ?_)
      refine Kf.ite ?_ ?_
      · skip
        refine Kf.ck ?_
        refine Kf.ite ?_ ?_
        · skip
          exact Kf.some h1
        · skip
          exact (zk_W_oldIn_31 (r0 := r0) hW ih) _ _ _ h1
      · skip
        exact (zk_W_oldIn_31 (r0 := r0) hW ih) _ _ _ h1
theorem zk_W_oldIn {W : Nat → Int → Int → Int → Prop} {S0 : Sg} {r0 : Int} (hW : ∀ g r k i, zr_W_oldIn r0 g r k i → W g r k i) : ∀ (x1 : Int) (S : Sg), Fm W S0 S → Kf W S0 (zf_W_oldIn r0 x1 S) := by
  intro x1 S h0
  unfold zf_W_oldIn
  exact (zk_W_oldIn_2 (r0 := r0) hW) 4096 _ _ _ h0
def zr_W_grumble (r0 : Int) (g : Nat) (r k i : Int) : Prop := (g = 5 ∧ r = r0 ∧ k = 7)
theorem zk_W_grumble_144 {W : Nat → Int → Int → Int → Prop} {S0 : Sg} {r0 : Int} (hW : ∀ g r k i, zr_W_grumble r0 g r k i → W g r k i) {q14 : Int → Int → Int → Sg → Option (Int × Sg)} (hq14 : ∀ (x0 x1 x2 : Int) (S : Sg), Fm W S0 S → Kf W S0 (q14 x0 x1 x2 S)) : ∀ (x1 : Int) (x2 : Int) (x3 : Int) (S : Sg), Fm W S0 S → Kf W S0 (zf_W_grumble_144 r0 q14 x1 x2 x3 S) := by
  intro x1 x2 x3 S h0
  unfold zf_W_grumble_144
  refine Kf.lt (fun v1 => ?_)
  exact hq14 _ _ _ _ h0
theorem zk_W_grumble_136 {W : Nat → Int → Int → Int → Prop} {S0 : Sg} {r0 : Int} (hW : ∀ g r k i, zr_W_grumble r0 g r k i → W g r k i) {q14 : Int → Int → Int → Sg → Option (Int × Sg)} (hq14 : ∀ (x0 x1 x2 : Int) (S : Sg), Fm W S0 S → Kf W S0 (q14 x0 x1 x2 S)) : ∀ (x1 : Int) (x2 : Int) (x3 : Int) (xt1 : Int) (xt2 : Int) (xt3 : Int) (xt4 : Int) (xt5 : Int) (S : Sg), Fm W S0 S → Kf W S0 (zf_W_grumble_136 r0 q14 x1 x2 x3 xt1 xt2 xt3 xt4 xt5 S) := by
  intro x1 x2 x3 xt1 xt2 xt3 xt4 xt5 S h0
  unfold zf_W_grumble_136
  refine Kf.ck ?_
  refine Kf.put h0 (hW _ _ _ _ ⟨rfl, rfl, rfl⟩) (fun S2 h1 => ?_)
  exact (zk_W_grumble_144 (r0 := r0) hW hq14) _ _ _ _ h1
theorem zk_W_grumble_108 {W : Nat → Int → Int → Int → Prop} {S0 : Sg} {r0 : Int} (hW : ∀ g r k i, zr_W_grumble r0 g r k i → W g r k i) {q14 : Int → Int → Int → Sg → Option (Int × Sg)} (hq14 : ∀ (x0 x1 x2 : Int) (S : Sg), Fm W S0 S → Kf W S0 (q14 x0 x1 x2 S)) : ∀ (x1 : Int) (x2 : Int) (x3 : Int) (xt0 : Int) (xt1 : Int) (S : Sg), Fm W S0 S → Kf W S0 (zf_W_grumble_108 r0 q14 x1 x2 x3 xt0 xt1 S) := by
  intro x1 x2 x3 xt0 xt1 S h0
  unfold zf_W_grumble_108
  refine Kf.lt (fun v1 => ?_)
  refine Kf.ck ?_
  refine Kf.ite ?_ ?_
  · skip
    exact (zk_W_grumble_136 (r0 := r0) hW hq14) _ _ _ _ _ _ _ _ _ h0
  · skip
    exact (zk_W_grumble_136 (r0 := r0) hW hq14) _ _ _ _ _ _ _ _ _ h0
theorem zk_W_grumble_107 {W : Nat → Int → Int → Int → Prop} {S0 : Sg} {r0 : Int} (hW : ∀ g r k i, zr_W_grumble r0 g r k i → W g r k i) {q14 : Int → Int → Int → Sg → Option (Int × Sg)} (hq14 : ∀ (x0 x1 x2 : Int) (S : Sg), Fm W S0 S → Kf W S0 (q14 x0 x1 x2 S)) : ∀ (x1 : Int) (x2 : Int) (x3 : Int) (xt0 : Int) (S : Sg), Fm W S0 S → Kf W S0 (zf_W_grumble_107 r0 q14 x1 x2 x3 xt0 S) := by
  intro x1 x2 x3 xt0 S h0
  unfold zf_W_grumble_107
  exact (zk_W_grumble_108 (r0 := r0) hW hq14) _ _ _ _ _ _ h0
theorem zk_W_grumble_81 {W : Nat → Int → Int → Int → Prop} {S0 : Sg} {r0 : Int} (hW : ∀ g r k i, zr_W_grumble r0 g r k i → W g r k i) {q14 : Int → Int → Int → Sg → Option (Int × Sg)} (hq14 : ∀ (x0 x1 x2 : Int) (S : Sg), Fm W S0 S → Kf W S0 (q14 x0 x1 x2 S)) : ∀ (x1 : Int) (x2 : Int) (x3 : Int) (xt0 : Int) (xt1 : Int) (S : Sg), Fm W S0 S → Kf W S0 (zf_W_grumble_81 r0 q14 x1 x2 x3 xt0 xt1 S) := by
  intro x1 x2 x3 xt0 xt1 S h0
  unfold zf_W_grumble_81
  refine Kf.lt (fun v1 => ?_)
  refine Kf.ite ?_ ?_
  · skip
    refine Kf.ck ?_
    refine Kf.bd ((zk_W_oldIn (r0 := (r0)) (fun _ _ _ _ h => h.elim)) _ _ h0) (fun a4 S5 h2 => ?_)
    refine Kf.ite ?_ ?_
    · skip
      exact (zk_W_grumble_107 (r0 := r0) hW hq14) _ _ _ _ _ h2
    · skip
      exact (zk_W_grumble_108 (r0 := r0) hW hq14) _ _ _ _ _ _ h2
  · skip
    exact (zk_W_grumble_107 (r0 := r0) hW hq14) _ _ _ _ _ h0
theorem zk_W_grumble_80 {W : Nat → Int → Int → Int → Prop} {S0 : Sg} {r0 : Int} (hW : ∀ g r k i, zr_W_grumble r0 g r k i → W g r k i) {q14 : Int → Int → Int → Sg → Option (Int × Sg)} (hq14 : ∀ (x0 x1 x2 : Int) (S : Sg), Fm W S0 S → Kf W S0 (q14 x0 x1 x2 S)) : ∀ (x1 : Int) (x2 : Int) (x3 : Int) (xt0 : Int) (S : Sg), Fm W S0 S → Kf W S0 (zf_W_grumble_80 r0 q14 x1 x2 x3 xt0 S) := by
  intro x1 x2 x3 xt0 S h0
  unfold zf_W_grumble_80
  exact (zk_W_grumble_81 (r0 := r0) hW hq14) _ _ _ _ _ _ h0
theorem zk_W_grumble_14 {W : Nat → Int → Int → Int → Prop} {S0 : Sg} {r0 : Int} (hW : ∀ g r k i, zr_W_grumble r0 g r k i → W g r k i) : ∀ (n : Nat) (x1 x2 x3 : Int) (S : Sg), Fm W S0 S → Kf W S0 (zf_W_grumble_14 r0 n x1 x2 x3 S) := by
  intro n
  induction n with
  | zero => intro x1 x2 x3 S h0; exact Kf.none
  | succ n ih =>
    intro x1 x2 x3 S h0
    rw [zf_W_grumble_14]
    refine Kf.ite ?_ ?_
    · skip
      exact Kf.some h0
    · skip
      refine Kf.bd ((zk_W_here (r0 := (r0)) (fun _ _ _ _ h => h.elim)) _ _ h0) (fun a2 S3 h1 => ?_)
      refine Kf.ite ?_ ?_
      · skip
        exact (zk_W_grumble_144 (r0 := r0) hW ih) _ _ _ _ h1
      · skip
        refine Kf.ck ?_
        refine Kf.ck ?_
        refine Kf.lt (fun v7 => ?_)
        refine Kf.ite ?_ ?_
        · skip
          refine Kf.bd ((zk_W_isMother (r0 := (r0)) (fun _ _ _ _ h => h.elim)) _ _ h1) (fun a9 S10 h3 => ?_)
          refine Kf.ite ?_ ?_
          · skip
            exact (zk_W_grumble_80 (r0 := r0) hW ih) _ _ _ _ _ h3
          · skip
            exact (zk_W_grumble_81 (r0 := r0) hW ih) _ _ _ _ _ _ h3
        · skip
          exact (zk_W_grumble_80 (r0 := r0) hW ih) _ _ _ _ _ h1
theorem zk_W_grumble {W : Nat → Int → Int → Int → Prop} {S0 : Sg} {r0 : Int} (hW : ∀ g r k i, zr_W_grumble r0 g r k i → W g r k i) : ∀ (S : Sg), Fm W S0 S → Kf W S0 (zf_W_grumble r0 S) := by
  intro S h0
  unfold zf_W_grumble
  refine Kf.bd ((zk_W_anyFilled (r0 := (r0)) (fun _ _ _ _ h => h.elim)) _ _ h0) (fun a1 S2 h1 => ?_)
  refine Kf.bd ((zk_W_anyFilled (r0 := (r0)) (fun _ _ _ _ h => h.elim)) _ _ h1) (fun a3 S4 h2 => ?_)
  exact (zk_W_grumble_14 (r0 := r0) hW) 4096 _ _ _ _ h2
def zr_W_go (r0 : Int) (g : Nat) (r k i : Int) : Prop := (g = 5 ∧ r = r0 ∧ k = 5) ∨ (g = 5 ∧ r = r0 ∧ k = 7)
theorem zk_W_go {W : Nat → Int → Int → Int → Prop} {S0 : Sg} {r0 : Int} (hW : ∀ g r k i, zr_W_go r0 g r k i → W g r k i) : ∀ (x1 : Int) (S : Sg), Fm W S0 S → Kf W S0 (zf_W_go r0 x1 S) := by
  intro x1 S h0
  unfold zf_W_go
  refine Kf.ck ?_
  refine Kf.put h0 (hW _ _ _ _ (Or.inl ⟨rfl, rfl, rfl⟩)) (fun S2 h1 => ?_)
  refine Kf.put h1 (hW _ _ _ _ (Or.inr ⟨rfl, rfl, rfl⟩)) (fun S3 h2 => ?_)
  exact Kf.some h2
def zr_W_leave (r0 : Int) (g : Nat) (r k i : Int) : Prop := (g = 5 ∧ r = r0 ∧ k = 0 ∧ i = 47) ∨ (g = 5 ∧ r = r0 ∧ k = 0 ∧ i = 48) ∨ (g = 5 ∧ r = r0 ∧ k = 0 ∧ i = 49) ∨ (g = 5 ∧ r = r0 ∧ k = 35) ∨ (g = 5 ∧ r = r0 ∧ k = 5) ∨ (g = 5 ∧ r = r0 ∧ k = 7)
theorem zk_W_leave_112 {W : Nat → Int → Int → Int → Prop} {S0 : Sg} {r0 : Int} (hW : ∀ g r k i, zr_W_leave r0 g r k i → W g r k i) {q2 : Int → Sg → Option (Int × Sg)} (hq2 : ∀ (x0 : Int) (S : Sg), Fm W S0 S → Kf W S0 (q2 x0 S)) : ∀ (x1 : Int) (S : Sg), Fm W S0 S → Kf W S0 (zf_W_leave_112 r0 q2 x1 S) := by
  intro x1 S h0
  unfold zf_W_leave_112
  refine Kf.lt (fun v1 => ?_)
  exact hq2 _ _ h0
theorem zk_W_leave_106 {W : Nat → Int → Int → Int → Prop} {S0 : Sg} {r0 : Int} (hW : ∀ g r k i, zr_W_leave r0 g r k i → W g r k i) {q2 : Int → Sg → Option (Int × Sg)} (hq2 : ∀ (x0 : Int) (S : Sg), Fm W S0 S → Kf W S0 (q2 x0 S)) {q70 : Int → Int → Sg → Option (Int × Sg)} (hq70 : ∀ (x0 x1 : Int) (S : Sg), Fm W S0 S → Kf W S0 (q70 x0 x1 S)) : ∀ (x1 : Int) (x4 : Int) (S : Sg), Fm W S0 S → Kf W S0 (zf_W_leave_106 r0 q2 q70 x1 x4 S) := by
  intro x1 x4 S h0
  unfold zf_W_leave_106
  refine Kf.lt (fun v1 => ?_)
  exact hq70 _ _ _ h0
theorem zk_W_leave_70 {W : Nat → Int → Int → Int → Prop} {S0 : Sg} {r0 : Int} (hW : ∀ g r k i, zr_W_leave r0 g r k i → W g r k i) {q2 : Int → Sg → Option (Int × Sg)} (hq2 : ∀ (x0 : Int) (S : Sg), Fm W S0 S → Kf W S0 (q2 x0 S)) : ∀ (n : Nat) (x1 x4 : Int) (S : Sg), Fm W S0 S → Kf W S0 (zf_W_leave_70 r0 q2 n x1 x4 S) := by
  intro n
  induction n with
  | zero => intro x1 x4 S h0; exact Kf.none
  | succ n ih =>
    intro x1 x4 S h0
    rw [zf_W_leave_70]
    refine Kf.ite ?_ ?_
    · skip
      exact (zk_W_leave_112 (r0 := r0) hW hq2) _ _ h0
    · skip
      refine Kf.ck ?_
      refine Kf.ite ?_ ?_
      · skip
        refine Kf.bd ((zk_W_kind (r0 := (r0)) (fun _ _ _ _ h => h.elim)) _ _ h0) (fun a4 S5 h1 => ?_)
        refine Kf.ite ?_ ?_
        · skip
          refine Kf.bd ((zk_W_go (r0 := (r0)) (fun g r k i h => hW g r k i (Or.elim h (fun h => (Or.inr (Or.inr (Or.inr (Or.inr (Or.inl ⟨h.1, h.2.1, h.2.2⟩)))))) (fun h => (Or.inr (Or.inr (Or.inr (Or.inr (Or.inr ⟨h.1, h.2.1, h.2.2⟩))))))))) _ _ h1) (fun a7 S8 h2 => ?_)
          exact (zk_W_leave_106 (r0 := r0) hW hq2 ih) _ _ _ h2
        · skip
          exact (zk_W_leave_106 (r0 := r0) hW hq2 ih) _ _ _ h1
      · skip
        exact (zk_W_leave_106 (r0 := r0) hW hq2 ih) _ _ _ h0
theorem zk_W_leave_30 {W : Nat → Int → Int → Int → Prop} {S0 : Sg} {r0 : Int} (hW : ∀ g r k i, zr_W_leave r0 g r k i → W g r k i) {q2 : Int → Sg → Option (Int × Sg)} (hq2 : ∀ (x0 : Int) (S : Sg), Fm W S0 S → Kf W S0 (q2 x0 S)) : ∀ (x1 : Int) (xt0 : Int) (S : Sg), Fm W S0 S → Kf W S0 (zf_W_leave_30 r0 q2 x1 xt0 S) := by
  intro x1 xt0 S h0
  unfold zf_W_leave_30
  refine Kf.ite ?_ ?_
  · skip
    exact (zk_W_leave_112 (r0 := r0) hW hq2) _ _ h0
  · skip
    refine Kf.ck ?_
    refine Kf.ite ?_ ?_
    · skip
      exact (zk_W_leave_112 (r0 := r0) hW hq2) _ _ h0
    · skip
      refine Kf.bd ((zk_W_may (r0 := (r0)) (fun g r k i h => hW g r k i (Or.elim h (fun h => (Or.inl ⟨h.1, h.2.1, h.2.2.1, h.2.2.2⟩)) (fun h => (Or.elim h (fun h => (Or.inr (Or.inl ⟨h.1, h.2.1, h.2.2.1, h.2.2.2⟩))) (fun h => (Or.elim h (fun h => (Or.inr (Or.inr (Or.inl ⟨h.1, h.2.1, h.2.2.1, h.2.2.2⟩)))) (fun h => (Or.inr (Or.inr (Or.inr (Or.inl ⟨h.1, h.2.1, h.2.2⟩)))))))))))) _ _ _ h0) (fun a4 S5 h1 => ?_)
      refine Kf.ite ?_ ?_
      · skip
        exact (zk_W_leave_112 (r0 := r0) hW hq2) _ _ h1
      · skip
        refine Kf.bd ((zk_W_go (r0 := (r0)) (fun g r k i h => hW g r k i (Or.elim h (fun h => (Or.inr (Or.inr (Or.inr (Or.inr (Or.inl ⟨h.1, h.2.1, h.2.2⟩)))))) (fun h => (Or.inr (Or.inr (Or.inr (Or.inr (Or.inr ⟨h.1, h.2.1, h.2.2⟩))))))))) _ _ h1) (fun a7 S8 h2 => ?_)
        exact (zk_W_leave_70 (r0 := r0) hW hq2) 4096 _ _ _ h2
theorem zk_W_leave_25 {W : Nat → Int → Int → Int → Prop} {S0 : Sg} {r0 : Int} (hW : ∀ g r k i, zr_W_leave r0 g r k i → W g r k i) {q2 : Int → Sg → Option (Int × Sg)} (hq2 : ∀ (x0 : Int) (S : Sg), Fm W S0 S → Kf W S0 (q2 x0 S)) : ∀ (x1 : Int) (S : Sg), Fm W S0 S → Kf W S0 (zf_W_leave_25 r0 q2 x1 S) := by
  intro x1 S h0
  unfold zf_W_leave_25
  exact (zk_W_leave_30 (r0 := r0) hW hq2) _ _ _ h0
theorem zk_W_leave_2 {W : Nat → Int → Int → Int → Prop} {S0 : Sg} {r0 : Int} (hW : ∀ g r k i, zr_W_leave r0 g r k i → W g r k i) : ∀ (n : Nat) (x1 : Int) (S : Sg), Fm W S0 S → Kf W S0 (zf_W_leave_2 r0 n x1 S) := by
  intro n
  induction n with
  | zero => intro x1 S h0; exact Kf.none
  | succ n ih =>
    intro x1 S h0
    rw [zf_W_leave_2]
    refine Kf.ite ?_ ?_
    · skip
      exact Kf.some h0
    · skip
      refine Kf.bd ((zk_W_kind (r0 := (r0)) (fun _ _ _ _ h => h.elim)) _ _ h0) (fun a2 S3 h1 => ?_)
      refine Kf.ite ?_ ?_
      · skip
        exact (zk_W_leave_25 (r0 := r0) hW ih) _ _ h1
      · skip
        refine Kf.ite ?_ ?_
        · skip
          exact (zk_W_leave_25 (r0 := r0) hW ih) _ _ h1
        · skip
          exact (zk_W_leave_30 (r0 := r0) hW ih) _ _ _ h1
theorem zk_W_leave {W : Nat → Int → Int → Int → Prop} {S0 : Sg} {r0 : Int} (hW : ∀ g r k i, zr_W_leave r0 g r k i → W g r k i) : ∀ (S : Sg), Fm W S0 S → Kf W S0 (zf_W_leave r0 S) := by
  intro S h0
  unfold zf_W_leave
  exact (zk_W_leave_2 (r0 := r0) hW) 4096 _ _ h0
