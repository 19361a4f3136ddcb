/-! ===== what a function may change, 2 ===== -/
def zr_Y_meanOfMonth (k0 : Int) (r0 : Int) (g : Nat) (r k i : Int) : Prop := False
theorem zk_Y_meanOfMonth_58 {W : Nat → Int → Int → Int → Prop} {S0 : Sg} {k0 : Int} {r0 : Int} (hW : ∀ g r k i, zr_Y_meanOfMonth k0 r0 g r k i → W g r k i) {q8 : Int → Int → Int → Int → Sg → Option (Int × Sg)} (hq8 : ∀ (x0 x1 x2 x3 : Int) (S : Sg), Fm W S0 S → Kf W S0 (q8 x0 x1 x2 x3 S)) : ∀ (x1 : Int) (x2 : Int) (x4 : Int) (x5 : Int) (S : Sg), Fm W S0 S → Kf W S0 (zf_Y_meanOfMonth_58 r0 k0 q8 x1 x2 x4 x5 S) := by
  intro x1 x2 x4 x5 S h0
  unfold zf_Y_meanOfMonth_58
  refine Kf.lt (fun v1 => ?_)
  exact hq8 _ _ _ _ _ h0
theorem zk_Y_meanOfMonth_8 {W : Nat → Int → Int → Int → Prop} {S0 : Sg} {k0 : Int} {r0 : Int} (hW : ∀ g r k i, zr_Y_meanOfMonth k0 r0 g r k i → W g r k i) : ∀ (n : Nat) (x1 x2 x4 x5 : Int) (S : Sg), Fm W S0 S → Kf W S0 (zf_Y_meanOfMonth_8 r0 k0 n x1 x2 x4 x5 S) := by
  intro n
  induction n with
  | zero => intro x1 x2 x4 x5 S h0; exact Kf.none
  | succ n ih =>
    intro x1 x2 x4 x5 S h0
    rw [zf_Y_meanOfMonth_8]
    refine Kf.ite ?_ ?_
    · skip
      refine Kf.ite ?_ ?_
      · skip
        exact Kf.some h0
      · skip
        refine Kf.ck ?_
        exact Kf.some h0
    · skip
      refine Kf.lt (fun v4 => ?_)
      refine Kf.ite ?_ ?_
      · skip
        exact (zk_Y_meanOfMonth_58 (r0 := r0) (k0 := k0) hW ih) _ _ _ _ _ h0
      · skip
        refine Kf.bd ((zk_Y_isMissing (r0 := (r0)) (k0 := (k0)) (fun _ _ _ _ h => h.elim)) _ _ h0) (fun a6 S7 h2 => ?_)
        refine Kf.ite ?_ ?_
        · skip
          refine Kf.ck ?_
          refine Kf.lt (fun v10 => ?_)
          refine Kf.lt (fun v11 => ?_)
          exact (zk_Y_meanOfMonth_58 (r0 := r0) (k0 := k0) hW ih) _ _ _ _ _ h2
        · skip
          exact (zk_Y_meanOfMonth_58 (r0 := r0) (k0 := k0) hW ih) _ _ _ _ _ h2
theorem zk_Y_meanOfMonth {W : Nat → Int → Int → Int → Prop} {S0 : Sg} {k0 : Int} {r0 : Int} (hW : ∀ g r k i, zr_Y_meanOfMonth k0 r0 g r k i → W g r k i) : ∀ (x1 : Int) (S : Sg), Fm W S0 S → Kf W S0 (zf_Y_meanOfMonth r0 k0 x1 S) := by
  intro x1 S h0
  unfold zf_Y_meanOfMonth
  exact (zk_Y_meanOfMonth_8 (r0 := r0) (k0 := k0) hW) 4096 _ _ _ _ _ h0
def zr_Y_at (k0 : Int) (r0 : Int) (g : Nat) (r k i : Int) : Prop := False
theorem zk_Y_at {W : Nat → Int → Int → Int → Prop} {S0 : Sg} {k0 : Int} {r0 : Int} (hW : ∀ g r k i, zr_Y_at k0 r0 g r k i → W g r k i) : ∀ (x1 : Int) (S : Sg), Fm W S0 S → Kf W S0 (zf_Y_at r0 k0 x1 S) := by
  intro x1 S h0
  unfold zf_Y_at
  refine Kf.ite ?_ ?_
  · skip
    exact Kf.some h0
  · skip
    refine Kf.ite ?_ ?_
    · skip
      refine Kf.bd ((zk_Y_isMissing (r0 := (r0)) (k0 := (k0)) (fun _ _ _ _ h => h.elim)) _ _ h0) (fun a3 S4 h1 => ?_)
      refine Kf.ite ?_ ?_
      · skip
        refine Kf.ck ?_
        exact Kf.some h1
      · skip
        refine Kf.bd ((zk_Y_meanOfMonth (r0 := (r0)) (k0 := (k0)) (fun _ _ _ _ h => h.elim)) _ _ h1) (fun a6 S7 h2 => ?_)
        exact Kf.some h2
    · skip
      exact Kf.some h0
def zr_O_sky (g : Nat) (r k i : Int) : Prop := False
theorem zk_O_sky {W : Nat → Int → Int → Int → Prop} {S0 : Sg} (hW : ∀ g r k i, zr_O_sky g r k i → W g r k i) : ∀ (x1 : Int) (x2 : Int) (S : Sg), Fm W S0 S → Kf W S0 (zf_O_sky x1 x2 S) := by
  intro x1 x2 S h0
  unfold zf_O_sky
  refine Kf.bd ((zk_O_isWeek (fun _ _ _ _ h => h.elim)) _ _ h0) (fun a1 S2 h1 => ?_)
  refine Kf.ite ?_ ?_
  · skip
    exact Kf.some h1
  · skip
    refine Kf.ite ?_ ?_
    · skip
      refine Kf.bd ((zk_Y_at (r0 := (0)) (k0 := (0)) (fun _ _ _ _ h => h.elim)) _ _ h1) (fun a5 S6 h2 => ?_)
      exact Kf.some h2
    · skip
      refine Kf.bd ((zk_Y_at (r0 := (0)) (k0 := (1)) (fun _ _ _ _ h => h.elim)) _ _ h1) (fun a7 S8 h3 => ?_)
      exact Kf.some h3
def zr_P_in (r0 : Int) (g : Nat) (r k i : Int) : Prop := False
theorem zk_P_in_25 {W : Nat → Int → Int → Int → Prop} {S0 : Sg} {r0 : Int} (hW : ∀ g r k i, zr_P_in r0 g r k i → W g r k i) {q4 : Int → Int → Int → Sg → Option (Int × Sg)} (hq4 : ∀ (x0 x1 x2 : Int) (S : Sg), Fm W S0 S → Kf W S0 (q4 x0 x1 x2 S)) : ∀ (x1 : Int) (x2 : Int) (x3 : Int) (S : Sg), Fm W S0 S → Kf W S0 (zf_P_in_25 r0 q4 x1 x2 x3 S) := by
  intro x1 x2 x3 S h0
  unfold zf_P_in_25
  refine Kf.lt (fun v1 => ?_)
  exact hq4 _ _ _ _ h0
theorem zk_P_in_4 {W : Nat → Int → Int → Int → Prop} {S0 : Sg} {r0 : Int} (hW : ∀ g r k i, zr_P_in r0 g r k i → W g r k i) : ∀ (n : Nat) (x1 x2 x3 : Int) (S : Sg), Fm W S0 S → Kf W S0 (zf_P_in_4 r0 n x1 x2 x3 S) := by
  intro n
  induction n with
  | zero => intro x1 x2 x3 S h0; exact Kf.none
  | succ n ih =>
    intro x1 x2 x3 S h0
    rw [zf_P_in_4]
    refine Kf.ite ?_ ?_
    · skip
      exact Kf.some h0
    · skip
      refine Kf.ck ?_
      refine Kf.ite ?_ ?_
      · skip
        refine Kf.lt (fun v4 => ?_)
        exact (zk_P_in_25 (r0 := r0) hW ih) _ _ _ _ h0
      · skip
        exact (zk_P_in_25 (r0 := r0) hW ih) _ _ _ _ h0
theorem zk_P_in {W : Nat → Int → Int → Int → Prop} {S0 : Sg} {r0 : Int} (hW : ∀ g r k i, zr_P_in r0 g r k i → W g r k i) : ∀ (x1 : Int) (S : Sg), Fm W S0 S → Kf W S0 (zf_P_in r0 x1 S) := by
  intro x1 S h0
  unfold zf_P_in
  exact (zk_P_in_4 (r0 := r0) hW) 4096 _ _ _ _ h0
def zr_O_noteRecord (g : Nat) (r k i : Int) : Prop := (g = 3 ∧ r = 0 ∧ k = 1)
theorem zk_O_noteRecord {W : Nat → Int → Int → Int → Prop} {S0 : Sg} (hW : ∀ g r k i, zr_O_noteRecord g r k i → W g r k i) : ∀ (x1 : Int) (S : Sg), Fm W S0 S → Kf W S0 (zf_O_noteRecord x1 S) := by
  intro x1 S h0
  unfold zf_O_noteRecord
  refine Kf.ite ?_ ?_
  · skip
    exact Kf.some h0
  · skip
    refine Kf.ite ?_ ?_
    · skip
      refine Kf.lt (fun v3 => ?_)
      refine Kf.bd ((zk_P_in (r0 := (0)) (fun _ _ _ _ h => h.elim)) _ _ h0) (fun a4 S5 h2 => ?_)
      refine Kf.ck ?_
      refine Kf.put h2 (hW _ _ _ _ ⟨rfl, rfl, rfl⟩) (fun S7 h3 => ?_)
      refine Kf.bd ((zk_P_in (r0 := (0)) (fun _ _ _ _ h => h.elim)) _ _ h3) (fun a8 S9 h4 => ?_)
      refine Kf.ck ?_
      refine Kf.put h4 (hW _ _ _ _ ⟨rfl, rfl, rfl⟩) (fun S11 h5 => ?_)
      refine Kf.ck ?_
      refine Kf.put h5 (hW _ _ _ _ ⟨rfl, rfl, rfl⟩) (fun S13 h6 => ?_)
      refine Kf.ck ?_
      refine Kf.put h6 (hW _ _ _ _ ⟨rfl, rfl, rfl⟩) (fun S15 h7 => ?_)
      refine Kf.ck ?_
      refine Kf.put h7 (hW _ _ _ _ ⟨rfl, rfl, rfl⟩) (fun S17 h8 => ?_)
      exact Kf.some h8
    · skip
      exact Kf.some h0
def zr_T_spend (r0 : Int) (g : Nat) (r k i : Int) : Prop := (g = 0 ∧ r = r0 ∧ k = 32)
theorem zk_T_spend_15 {W : Nat → Int → Int → Int → Prop} {S0 : Sg} {r0 : Int} (hW : ∀ g r k i, zr_T_spend r0 g r k i → W g r k i) : ∀ (x1 : Int) (x2 : Int) (xt0 : Int) (S : Sg), Fm W S0 S → Kf W S0 (zf_T_spend_15 r0 x1 x2 xt0 S) := by
  intro x1 x2 xt0 S h0
  unfold zf_T_spend_15
  refine Kf.ck ?_
  refine Kf.put h0 (hW _ _ _ _ ⟨rfl, rfl, rfl⟩) (fun S2 h1 => ?_)
  refine Kf.ck ?_
  exact Kf.some h1
theorem zk_T_spend {W : Nat → Int → Int → Int → Prop} {S0 : Sg} {r0 : Int} (hW : ∀ g r k i, zr_T_spend r0 g r k i → W g r k i) : ∀ (x1 : Int) (x2 : Int) (S : Sg), Fm W S0 S → Kf W S0 (zf_T_spend r0 x1 x2 S) := by
  intro x1 x2 S h0
  unfold zf_T_spend
  refine Kf.ck ?_
  refine Kf.ite ?_ ?_
  · skip
    exact (zk_T_spend_15 (r0 := r0) hW) _ _ _ _ h0
  · skip
    exact (zk_T_spend_15 (r0 := r0) hW) _ _ _ _ h0
def zr_A_burn (r1 : Int) (g : Nat) (r k i : Int) : Prop := (g = 0 ∧ r = r1 ∧ k = 32)
theorem zk_A_burn_80 {W : Nat → Int → Int → Int → Prop} {S0 : Sg} {r1 : Int} (hW : ∀ g r k i, zr_A_burn r1 g r k i → W g r k i) {q4 : Int → Int → Sg → Option (Int × Sg)} (hq4 : ∀ (x0 x1 : Int) (S : Sg), Fm W S0 S → Kf W S0 (q4 x0 x1 S)) : ∀ (x2 : Int) (x3 : Int) (S : Sg), Fm W S0 S → Kf W S0 (zf_A_burn_80 r1 q4 x2 x3 S) := by
  intro x2 x3 S h0
  unfold zf_A_burn_80
  refine Kf.lt (fun v1 => ?_)
  exact hq4 _ _ _ h0
theorem zk_A_burn_61 {W : Nat → Int → Int → Int → Prop} {S0 : Sg} {r1 : Int} (hW : ∀ g r k i, zr_A_burn r1 g r k i → W g r k i) {q4 : Int → Int → Sg → Option (Int × Sg)} (hq4 : ∀ (x0 x1 : Int) (S : Sg), Fm W S0 S → Kf W S0 (q4 x0 x1 S)) : ∀ (x2 : Int) (x3 : Int) (x4 : Int) (S : Sg), Fm W S0 S → Kf W S0 (zf_A_burn_61 r1 q4 x2 x3 x4 S) := by
  intro x2 x3 x4 S h0
  unfold zf_A_burn_61
  refine Kf.bd ((zk_T_spend (r0 := (r1)) (fun g r k i h => hW g r k i ⟨h.1, h.2.1, h.2.2⟩)) _ _ _ h0) (fun a1 S2 h1 => ?_)
  refine Kf.ite ?_ ?_
  · skip
    refine Kf.lt (fun v4 => ?_)
    exact (zk_A_burn_80 (r1 := r1) hW hq4) _ _ _ h1
  · skip
    exact (zk_A_burn_80 (r1 := r1) hW hq4) _ _ _ h1
theorem zk_A_burn_52 {W : Nat → Int → Int → Int → Prop} {S0 : Sg} {r1 : Int} (hW : ∀ g r k i, zr_A_burn r1 g r k i → W g r k i) {q4 : Int → Int → Sg → Option (Int × Sg)} (hq4 : ∀ (x0 x1 : Int) (S : Sg), Fm W S0 S → Kf W S0 (q4 x0 x1 S)) {q23 : Int → Int → Int → Int → Sg → Option (Int × Sg)} (hq23 : ∀ (x0 x1 x2 x3 : Int) (S : Sg), Fm W S0 S → Kf W S0 (q23 x0 x1 x2 x3 S)) : ∀ (x2 : Int) (x3 : Int) (x5 : Int) (xt0 : Int) (xt1 : Int) (S : Sg), Fm W S0 S → Kf W S0 (zf_A_burn_52 r1 q4 q23 x2 x3 x5 xt0 xt1 S) := by
  intro x2 x3 x5 xt0 xt1 S h0
  unfold zf_A_burn_52
  refine Kf.lt (fun v1 => ?_)
  refine Kf.lt (fun v2 => ?_)
  exact hq23 _ _ _ _ _ h0
theorem zk_A_burn_23 {W : Nat → Int → Int → Int → Prop} {S0 : Sg} {r1 : Int} (hW : ∀ g r k i, zr_A_burn r1 g r k i → W g r k i) {q4 : Int → Int → Sg → Option (Int × Sg)} (hq4 : ∀ (x0 x1 : Int) (S : Sg), Fm W S0 S → Kf W S0 (q4 x0 x1 S)) : ∀ (n : Nat) (x2 x3 x4 x5 : Int) (S : Sg), Fm W S0 S → Kf W S0 (zf_A_burn_23 r1 q4 n x2 x3 x4 x5 S) := by
  intro n
  induction n with
  | zero => intro x2 x3 x4 x5 S h0; exact Kf.none
  | succ n ih =>
    intro x2 x3 x4 x5 S h0
    rw [zf_A_burn_23]
    refine Kf.ite ?_ ?_
    · skip
      exact (zk_A_burn_61 (r1 := r1) hW hq4) _ _ _ _ h0
    · skip
      refine Kf.ite ?_ ?_
      · skip
        refine Kf.ck ?_
        refine Kf.ite ?_ ?_
        · skip
          exact (zk_A_burn_52 (r1 := r1) hW hq4 ih) _ _ _ _ _ _ h0
        · skip
          exact (zk_A_burn_52 (r1 := r1) hW hq4 ih) _ _ _ _ _ _ h0
      · skip
        exact (zk_A_burn_61 (r1 := r1) hW hq4) _ _ _ _ h0
theorem zk_A_burn_4 {W : Nat → Int → Int → Int → Prop} {S0 : Sg} {r1 : Int} (hW : ∀ g r k i, zr_A_burn r1 g r k i → W g r k i) : ∀ (n : Nat) (x2 x3 : Int) (S : Sg), Fm W S0 S → Kf W S0 (zf_A_burn_4 r1 n x2 x3 S) := by
  intro n
  induction n with
  | zero => intro x2 x3 S h0; exact Kf.none
  | succ n ih =>
    intro x2 x3 S h0
    rw [zf_A_burn_4]
    refine Kf.ite ?_ ?_
    · skip
      exact Kf.some h0
    · skip
      refine Kf.ck ?_
      refine Kf.lt (fun v3 => ?_)
      exact (zk_A_burn_23 (r1 := r1) hW ih) 4096 _ _ _ _ _ h0
theorem zk_A_burn {W : Nat → Int → Int → Int → Prop} {S0 : Sg} {r1 : Int} (hW : ∀ g r k i, zr_A_burn r1 g r k i → W g r k i) : ∀ (S : Sg), Fm W S0 S → Kf W S0 (zf_A_burn r1 S) := by
  intro S h0
  unfold zf_A_burn
  exact (zk_A_burn_4 (r1 := r1) hW) 4096 _ _ _ h0
def zr_A_countHeads (r1 : Int) (g : Nat) (r k i : Int) : Prop := (g = 3 ∧ r = 0 ∧ k = 18)
theorem zk_A_countHeads_51 {W : Nat → Int → Int → Int → Prop} {S0 : Sg} {r1 : Int} (hW : ∀ g r k i, zr_A_countHeads r1 g r k i → W g r k i) {q10 : Int → Sg → Option (Int × Sg)} (hq10 : ∀ (x0 : Int) (S : Sg), Fm W S0 S → Kf W S0 (q10 x0 S)) : ∀ (x2 : Int) (S : Sg), Fm W S0 S → Kf W S0 (zf_A_countHeads_51 r1 q10 x2 S) := by
  intro x2 S h0
  unfold zf_A_countHeads_51
  refine Kf.lt (fun v1 => ?_)
  exact hq10 _ _ h0
theorem zk_A_countHeads_10 {W : Nat → Int → Int → Int → Prop} {S0 : Sg} {r1 : Int} (hW : ∀ g r k i, zr_A_countHeads r1 g r k i → W g r k i) : ∀ (n : Nat) (x2 : Int) (S : Sg), Fm W S0 S → Kf W S0 (zf_A_countHeads_10 r1 n x2 S) := by
  intro n
  induction n with
  | zero => intro x2 S h0; exact Kf.none
  | succ n ih =>
    intro x2 S h0
    rw [zf_A_countHeads_10]
    refine Kf.ite ?_ ?_
    · skip
      exact Kf.some h0
    · skip
      refine Kf.ck ?_
      refine Kf.ite ?_ ?_
      · skip
        refine Kf.ck ?_
        refine Kf.put h0 (hW _ _ _ _ ⟨rfl, rfl, rfl⟩) (fun S5 h1 => ?_)
        exact (zk_A_countHeads_51 (r1 := r1) hW ih) _ _ h1
      · skip
        exact (zk_A_countHeads_51 (r1 := r1) hW ih) _ _ h0
theorem zk_A_countHeads {W : Nat → Int → Int → Int → Prop} {S0 : Sg} {r1 : Int} (hW : ∀ g r k i, zr_A_countHeads r1 g r k i → W g r k i) : ∀ (S : Sg), Fm W S0 S → Kf W S0 (zf_A_countHeads r1 S) := by
  intro S h0
  unfold zf_A_countHeads
  refine Kf.bd ((zk_Ja_fill (g0 := 3) (r0 := (0)) (k0 := (18)) (n0 := 12) (fun g r k i h => hW g r k i ⟨h.1, h.2.1, h.2.2⟩)) _ _ h0) (fun a1 S2 h1 => ?_)
  exact (zk_A_countHeads_10 (r1 := r1) hW) 4096 _ _ h1
def zr_A_drink (r1 : Int) (g : Nat) (r k i : Int) : Prop := (g = 0 ∧ r = r1 ∧ k = 3) ∨ (g = 0 ∧ r = r1 ∧ k = 5)
theorem zk_A_drink_42 {W : Nat → Int → Int → Int → Prop} {S0 : Sg} {r1 : Int} (hW : ∀ g r k i, zr_A_drink r1 g r k i → W g r k i) {q2 : Int → Sg → Option (Int × Sg)} (hq2 : ∀ (x0 : Int) (S : Sg), Fm W S0 S → Kf W S0 (q2 x0 S)) : ∀ (x2 : Int) (x3 : Int) (xt1 : Int) (xt2 : Int) (S : Sg), Fm W S0 S → Kf W S0 (zf_A_drink_42 r1 q2 x2 x3 xt1 xt2 S) := by
  intro x2 x3 xt1 xt2 S h0
  unfold zf_A_drink_42
  refine Kf.ck ?_
  refine Kf.put h0 (hW _ _ _ _ (Or.inr ⟨rfl, rfl, rfl⟩)) (fun S2 h1 => ?_)
  refine Kf.ck ?_
  refine Kf.put h1 (hW _ _ _ _ (Or.inl ⟨rfl, rfl, rfl⟩)) (fun S4 h2 => ?_)
  refine Kf.lt (fun v5 => ?_)
  exact hq2 _ _ h2
theorem zk_A_drink_2 {W : Nat → Int → Int → Int → Prop} {S0 : Sg} {r1 : Int} (hW : ∀ g r k i, zr_A_drink r1 g r k i → W g r k i) : ∀ (n : Nat) (x2 : Int) (S : Sg), Fm W S0 S → Kf W S0 (zf_A_drink_2 r1 n x2 S) := by
  intro n
  induction n with
  | zero => intro x2 S h0; exact Kf.none
  | succ n ih =>
    intro x2 S h0
    rw [zf_A_drink_2]
    refine Kf.ite ?_ ?_
    · skip
      exact Kf.some h0
    · skip
      refine Kf.ck ?_
      refine Kf.lt (fun v3 => ?_)
      refine Kf.ite ?_ ?_
      · skip
        exact (zk_A_drink_42 (r1 := r1) hW ih) _ _ _ _ _ h0
      · skip
        exact (zk_A_drink_42 (r1 := r1) hW ih) _ _ _ _ _ h0
theorem zk_A_drink {W : Nat → Int → Int → Int → Prop} {S0 : Sg} {r1 : Int} (hW : ∀ g r k i, zr_A_drink r1 g r k i → W g r k i) : ∀ (S : Sg), Fm W S0 S → Kf W S0 (zf_A_drink r1 S) := by
  intro S h0
  unfold zf_A_drink
  exact (zk_A_drink_2 (r1 := r1) hW) 4096 _ _ h0
def zr_A_shareOut (r1 : Int) (g : Nat) (r k i : Int) : Prop := (g = 0 ∧ r = r1 ∧ k = 32) ∨ (g = 3 ∧ r = 0 ∧ k = 16) ∨ (g = 3 ∧ r = 0 ∧ k = 17) ∨ (g = 3 ∧ r = 0 ∧ k = 7 ∧ i = 2) ∨ (g = 3 ∧ r = 0 ∧ k = 8) ∨ (g = 3 ∧ r = 0 ∧ k = 9)
theorem zk_A_shareOut_279 {W : Nat → Int → Int → Int → Prop} {S0 : Sg} {r1 : Int} (hW : ∀ g r k i, zr_A_shareOut r1 g r k i → W g r k i) : ∀ (x3 : Int) (S : Sg), Fm W S0 S → Kf W S0 (zf_A_shareOut_279 r1 x3 S) := by
  intro x3 S h0
  unfold zf_A_shareOut_279
  refine Kf.put h0 (hW _ _ _ _ (Or.inl ⟨rfl, rfl, rfl⟩)) (fun S1 h1 => ?_)
  exact Kf.some h1
theorem zk_A_shareOut_273 {W : Nat → Int → Int → Int → Prop} {S0 : Sg} {r1 : Int} (hW : ∀ g r k i, zr_A_shareOut r1 g r k i → W g r k i) {q226 : Int → Int → Sg → Option (Int × Sg)} (hq226 : ∀ (x0 x1 : Int) (S : Sg), Fm W S0 S → Kf W S0 (q226 x0 x1 S)) : ∀ (x3 : Int) (x6 : Int) (S : Sg), Fm W S0 S → Kf W S0 (zf_A_shareOut_273 r1 q226 x3 x6 S) := by
  intro x3 x6 S h0
  unfold zf_A_shareOut_273
  refine Kf.lt (fun v1 => ?_)
  exact hq226 _ _ _ h0
theorem zk_A_shareOut_226 {W : Nat → Int → Int → Int → Prop} {S0 : Sg} {r1 : Int} (hW : ∀ g r k i, zr_A_shareOut r1 g r k i → W g r k i) : ∀ (n : Nat) (x3 x6 : Int) (S : Sg), Fm W S0 S → Kf W S0 (zf_A_shareOut_226 r1 n x3 x6 S) := by
  intro n
  induction n with
  | zero => intro x3 x6 S h0; exact Kf.none
  | succ n ih =>
    intro x3 x6 S h0
    rw [zf_A_shareOut_226]
    refine Kf.ite ?_ ?_
    · skip
      exact (zk_A_shareOut_279 (r1 := r1) hW) _ _ h0
    · skip
      refine Kf.ite ?_ ?_
      · skip
        exact (zk_A_shareOut_279 (r1 := r1) hW) _ _ h0
      · skip
        refine Kf.ck ?_
        refine Kf.bd ((zk_P_need (r0 := (r1)) (fun _ _ _ _ h => h.elim)) _ _ _ h0) (fun a4 S5 h1 => ?_)
        refine Kf.ite ?_ ?_
        · skip
          exact (zk_A_shareOut_273 (r1 := r1) hW ih) _ _ _ h1
        · skip
          refine Kf.put h1 (hW _ _ _ _ (Or.inr (Or.inr (Or.inl ⟨rfl, rfl, rfl⟩)))) (fun S8 h2 => ?_)
          refine Kf.lt (fun v9 => ?_)
          exact (zk_A_shareOut_273 (r1 := r1) hW ih) _ _ _ h2
theorem zk_A_shareOut_217 {W : Nat → Int → Int → Int → Prop} {S0 : Sg} {r1 : Int} (hW : ∀ g r k i, zr_A_shareOut r1 g r k i → W g r k i) {q166 : Int → Int → Int → Sg → Option (Int × Sg)} (hq166 : ∀ (x0 x1 x2 : Int) (S : Sg), Fm W S0 S → Kf W S0 (q166 x0 x1 x2 S)) : ∀ (x3 : Int) (x5 : Int) (x6 : Int) (S : Sg), Fm W S0 S → Kf W S0 (zf_A_shareOut_217 r1 q166 x3 x5 x6 S) := by
  intro x3 x5 x6 S h0
  unfold zf_A_shareOut_217
  refine Kf.lt (fun v1 => ?_)
  exact hq166 _ _ _ _ h0
theorem zk_A_shareOut_166 {W : Nat → Int → Int → Int → Prop} {S0 : Sg} {r1 : Int} (hW : ∀ g r k i, zr_A_shareOut r1 g r k i → W g r k i) : ∀ (n : Nat) (x3 x5 x6 : Int) (S : Sg), Fm W S0 S → Kf W S0 (zf_A_shareOut_166 r1 n x3 x5 x6 S) := by
  intro n
  induction n with
  | zero => intro x3 x5 x6 S h0; exact Kf.none
  | succ n ih =>
    intro x3 x5 x6 S h0
    rw [zf_A_shareOut_166]
    refine Kf.ite ?_ ?_
    · skip
      exact (zk_A_shareOut_226 (r1 := r1) hW) 4096 _ _ _ h0
    · skip
      refine Kf.ck ?_
      refine Kf.ite ?_ ?_
      · skip
        refine Kf.bd ((zk_P_need (r0 := (r1)) (fun _ _ _ _ h => h.elim)) _ _ _ h0) (fun a4 S5 h1 => ?_)
        refine Kf.put h1 (hW _ _ _ _ (Or.inr (Or.inr (Or.inl ⟨rfl, rfl, rfl⟩)))) (fun S6 h2 => ?_)
        refine Kf.lt (fun v7 => ?_)
        exact (zk_A_shareOut_217 (r1 := r1) hW ih) _ _ _ _ h2
      · skip
        exact (zk_A_shareOut_217 (r1 := r1) hW ih) _ _ _ _ h0
theorem zk_A_shareOut_161 {W : Nat → Int → Int → Int → Prop} {S0 : Sg} {r1 : Int} (hW : ∀ g r k i, zr_A_shareOut r1 g r k i → W g r k i) : ∀ (x3 : Int) (xt0 : Int) (S : Sg), Fm W S0 S → Kf W S0 (zf_A_shareOut_161 r1 x3 xt0 S) := by
  intro x3 xt0 S h0
  unfold zf_A_shareOut_161
  exact (zk_A_shareOut_166 (r1 := r1) hW) 4096 _ _ _ _ h0
theorem zk_A_shareOut_142 {W : Nat → Int → Int → Int → Prop} {S0 : Sg} {r1 : Int} (hW : ∀ g r k i, zr_A_shareOut r1 g r k i → W g r k i) {q21 : Int → Int → Int → Sg → Option (Int × Sg)} (hq21 : ∀ (x0 x1 x2 : Int) (S : Sg), Fm W S0 S → Kf W S0 (q21 x0 x1 x2 S)) : ∀ (x3 : Int) (x4 : Int) (x5 : Int) (S : Sg), Fm W S0 S → Kf W S0 (zf_A_shareOut_142 r1 q21 x3 x4 x5 S) := by
  intro x3 x4 x5 S h0
  unfold zf_A_shareOut_142
  refine Kf.lt (fun v1 => ?_)
  exact hq21 _ _ _ _ h0
theorem zk_A_shareOut_113 {W : Nat → Int → Int → Int → Prop} {S0 : Sg} {r1 : Int} (hW : ∀ g r k i, zr_A_shareOut r1 g r k i → W g r k i) {q21 : Int → Int → Int → Sg → Option (Int × Sg)} (hq21 : ∀ (x0 x1 x2 : Int) (S : Sg), Fm W S0 S → Kf W S0 (q21 x0 x1 x2 S)) : ∀ (x3 : Int) (x4 : Int) (x5 : Int) (x6 : Int) (xt1 : Int) (xt2 : Int) (S : Sg), Fm W S0 S → Kf W S0 (zf_A_shareOut_113 r1 q21 x3 x4 x5 x6 xt1 xt2 S) := by
  intro x3 x4 x5 x6 xt1 xt2 S h0
  unfold zf_A_shareOut_113
  refine Kf.ck ?_
  refine Kf.put h0 (hW _ _ _ _ (Or.inr (Or.inr (Or.inl ⟨rfl, rfl, rfl⟩)))) (fun S2 h1 => ?_)
  refine Kf.ck ?_
  refine Kf.lt (fun v4 => ?_)
  refine Kf.ite ?_ ?_
  · skip
    exact (zk_A_shareOut_142 (r1 := r1) hW hq21) _ _ _ _ h1
  · skip
    refine Kf.ite ?_ ?_
    · skip
      refine Kf.lt (fun v7 => ?_)
      exact (zk_A_shareOut_142 (r1 := r1) hW hq21) _ _ _ _ h1
    · skip
      exact (zk_A_shareOut_142 (r1 := r1) hW hq21) _ _ _ _ h1
theorem zk_A_shareOut_77 {W : Nat → Int → Int → Int → Prop} {S0 : Sg} {r1 : Int} (hW : ∀ g r k i, zr_A_shareOut r1 g r k i → W g r k i) {q21 : Int → Int → Int → Sg → Option (Int × Sg)} (hq21 : ∀ (x0 x1 x2 : Int) (S : Sg), Fm W S0 S → Kf W S0 (q21 x0 x1 x2 S)) : ∀ (x3 : Int) (x4 : Int) (x5 : Int) (x6 : Int) (xt1 : Int) (xt2 : Int) (S : Sg), Fm W S0 S → Kf W S0 (zf_A_shareOut_77 r1 q21 x3 x4 x5 x6 xt1 xt2 S) := by
  intro x3 x4 x5 x6 xt1 xt2 S h0
  unfold zf_A_shareOut_77
  refine Kf.ck ?_
  refine Kf.put h0 (hW _ _ _ _ (Or.inr (Or.inl ⟨rfl, rfl, rfl⟩))) (fun S2 h1 => ?_)
  refine Kf.ck ?_
  refine Kf.ite ?_ ?_
  · skip
    refine Kf.bd ((zk_P_need (r0 := (r1)) (fun _ _ _ _ h => h.elim)) _ _ _ h1) (fun a5 S6 h2 => ?_)
    exact (zk_A_shareOut_113 (r1 := r1) hW hq21) _ _ _ _ _ _ _ h2
  · skip
    exact (zk_A_shareOut_113 (r1 := r1) hW hq21) _ _ _ _ _ _ _ h1
theorem zk_A_shareOut_76 {W : Nat → Int → Int → Int → Prop} {S0 : Sg} {r1 : Int} (hW : ∀ g r k i, zr_A_shareOut r1 g r k i → W g r k i) {q21 : Int → Int → Int → Sg → Option (Int × Sg)} (hq21 : ∀ (x0 x1 x2 : Int) (S : Sg), Fm W S0 S → Kf W S0 (q21 x0 x1 x2 S)) : ∀ (x3 : Int) (x4 : Int) (x5 : Int) (x6 : Int) (xt1 : Int) (S : Sg), Fm W S0 S → Kf W S0 (zf_A_shareOut_76 r1 q21 x3 x4 x5 x6 xt1 S) := by
  intro x3 x4 x5 x6 xt1 S h0
  unfold zf_A_shareOut_76
  exact (zk_A_shareOut_77 (r1 := r1) hW hq21) _ _ _ _ _ _ _ h0
theorem zk_A_shareOut_45 {W : Nat → Int → Int → Int → Prop} {S0 : Sg} {r1 : Int} (hW : ∀ g r k i, zr_A_shareOut r1 g r k i → W g r k i) {q21 : Int → Int → Int → Sg → Option (Int × Sg)} (hq21 : ∀ (x0 x1 x2 : Int) (S : Sg), Fm W S0 S → Kf W S0 (q21 x0 x1 x2 S)) : ∀ (x3 : Int) (x4 : Int) (x5 : Int) (xt0 : Int) (S : Sg), Fm W S0 S → Kf W S0 (zf_A_shareOut_45 r1 q21 x3 x4 x5 xt0 S) := by
  intro x3 x4 x5 xt0 S h0
  unfold zf_A_shareOut_45
  refine Kf.ite ?_ ?_
  · skip
    exact (zk_A_shareOut_76 (r1 := r1) hW hq21) _ _ _ _ _ _ h0
  · skip
    refine Kf.bd ((zk_J_allows (r1 := (r1)) (fun g r k i h => hW g r k i (Or.elim h (fun h => (Or.inr (Or.inr (Or.inr (Or.inl ⟨h.1, h.2.1, h.2.2.1, h.2.2.2⟩))))) (fun h => (Or.elim h (fun h => (Or.inr (Or.inr (Or.inr (Or.inr (Or.inl ⟨h.1, h.2.1, h.2.2⟩)))))) (fun h => (Or.inr (Or.inr (Or.inr (Or.inr (Or.inr ⟨h.1, h.2.1, h.2.2⟩))))))))))) _ _ _ h0) (fun a2 S3 h1 => ?_)
    refine Kf.ite ?_ ?_
    · skip
      exact (zk_A_shareOut_76 (r1 := r1) hW hq21) _ _ _ _ _ _ h1
    · skip
      exact (zk_A_shareOut_77 (r1 := r1) hW hq21) _ _ _ _ _ _ _ h1
theorem zk_A_shareOut_21 {W : Nat → Int → Int → Int → Prop} {S0 : Sg} {r1 : Int} (hW : ∀ g r k i, zr_A_shareOut r1 g r k i → W g r k i) : ∀ (n : Nat) (x3 x4 x5 : Int) (S : Sg), Fm W S0 S → Kf W S0 (zf_A_shareOut_21 r1 n x3 x4 x5 S) := by
  intro n
  induction n with
  | zero => intro x3 x4 x5 S h0; exact Kf.none
  | succ n ih =>
    intro x3 x4 x5 S h0
    rw [zf_A_shareOut_21]
    refine Kf.ite ?_ ?_
    · skip
      refine Kf.ite ?_ ?_
      · skip
        exact (zk_A_shareOut_161 (r1 := r1) hW) _ _ _ h0
      · skip
        refine Kf.ck ?_
        exact (zk_A_shareOut_161 (r1 := r1) hW) _ _ _ h0
    · skip
      refine Kf.ck ?_
      refine Kf.ite ?_ ?_
      · skip
        exact (zk_A_shareOut_45 (r1 := r1) hW ih) _ _ _ _ _ h0
      · skip
        exact (zk_A_shareOut_45 (r1 := r1) hW ih) _ _ _ _ _ h0
theorem zk_A_shareOut {W : Nat → Int → Int → Int → Prop} {S0 : Sg} {r1 : Int} (hW : ∀ g r k i, zr_A_shareOut r1 g r k i → W g r k i) : ∀ (S : Sg), Fm W S0 S → Kf W S0 (zf_A_shareOut r1 S) := by
  intro S h0
  unfold zf_A_shareOut
  refine Kf.lt (fun v1 => ?_)
  exact (zk_A_shareOut_21 (r1 := r1) hW) 4096 _ _ _ _ h0
def zr_P_needOfAll (r0 : Int) (g : Nat) (r k i : Int) : Prop := False
theorem zk_P_needOfAll_4 {W : Nat → Int → Int → Int → Prop} {S0 : Sg} {r0 : Int} (hW : ∀ g r k i, zr_P_needOfAll r0 g r k i → W g r k i) : ∀ (n : Nat) (x1 x2 x3 : Int) (S : Sg), Fm W S0 S → Kf W S0 (zf_P_needOfAll_4 r0 n x1 x2 x3 S) := by
  intro n
  induction n with
  | zero => intro x1 x2 x3 S h0; exact Kf.none
  | succ n ih =>
    intro x1 x2 x3 S h0
    rw [zf_P_needOfAll_4]
    refine Kf.ite ?_ ?_
    · skip
      exact Kf.some h0
    · skip
      refine Kf.bd ((zk_P_need (r0 := (r0)) (fun _ _ _ _ h => h.elim)) _ _ _ h0) (fun a2 S3 h1 => ?_)
      refine Kf.lt (fun v4 => ?_)
      refine Kf.lt (fun v5 => ?_)
      exact ih _ _ _ _ h1
theorem zk_P_needOfAll {W : Nat → Int → Int → Int → Prop} {S0 : Sg} {r0 : Int} (hW : ∀ g r k i, zr_P_needOfAll r0 g r k i → W g r k i) : ∀ (x1 : Int) (S : Sg), Fm W S0 S → Kf W S0 (zf_P_needOfAll r0 x1 S) := by
  intro x1 S h0
  unfold zf_P_needOfAll
  exact (zk_P_needOfAll_4 (r0 := r0) hW) 4096 _ _ _ _ h0
def zr_A_feed (r1 : Int) (g : Nat) (r k i : Int) : Prop := (g = 0 ∧ r = r1 ∧ k = 15) ∨ (g = 0 ∧ r = r1 ∧ k = 32) ∨ (g = 3 ∧ r = 0 ∧ k = 16) ∨ (g = 3 ∧ r = 0 ∧ k = 17) ∨ (g = 3 ∧ r = 0 ∧ k = 7 ∧ i = 2) ∨ (g = 3 ∧ r = 0 ∧ k = 8) ∨ (g = 3 ∧ r = 0 ∧ k = 9)
theorem zk_A_feed_103 {W : Nat → Int → Int → Int → Prop} {S0 : Sg} {r1 : Int} (hW : ∀ g r k i, zr_A_feed r1 g r k i → W g r k i) {q58 : Int → Sg → Option (Int × Sg)} (hq58 : ∀ (x0 : Int) (S : Sg), Fm W S0 S → Kf W S0 (q58 x0 S)) : ∀ (x3 : Int) (xt1 : Int) (xt2 : Int) (S : Sg), Fm W S0 S → Kf W S0 (zf_A_feed_103 r1 q58 x3 xt1 xt2 S) := by
  intro x3 xt1 xt2 S h0
  unfold zf_A_feed_103
  refine Kf.ck ?_
  refine Kf.put h0 (hW _ _ _ _ (Or.inl ⟨rfl, rfl, rfl⟩)) (fun S2 h1 => ?_)
  refine Kf.lt (fun v3 => ?_)
  exact hq58 _ _ h1
theorem zk_A_feed_58 {W : Nat → Int → Int → Int → Prop} {S0 : Sg} {r1 : Int} (hW : ∀ g r k i, zr_A_feed r1 g r k i → W g r k i) : ∀ (n : Nat) (x3 : Int) (S : Sg), Fm W S0 S → Kf W S0 (zf_A_feed_58 r1 n x3 S) := by
  intro n
  induction n with
  | zero => intro x3 S h0; exact Kf.none
  | succ n ih =>
    intro x3 S h0
    rw [zf_A_feed_58]
    refine Kf.ite ?_ ?_
    · skip
      exact Kf.some h0
    · skip
      refine Kf.ck ?_
      refine Kf.bd ((zk_P_need (r0 := (r1)) (fun _ _ _ _ h => h.elim)) _ _ _ h0) (fun a3 S4 h1 => ?_)
      refine Kf.ite ?_ ?_
      · skip
        exact (zk_A_feed_103 (r1 := r1) hW ih) _ _ _ _ h1
      · skip
        exact (zk_A_feed_103 (r1 := r1) hW ih) _ _ _ _ h1
theorem zk_A_feed {W : Nat → Int → Int → Int → Prop} {S0 : Sg} {r1 : Int} (hW : ∀ g r k i, zr_A_feed r1 g r k i → W g r k i) : ∀ (S : Sg), Fm W S0 S → Kf W S0 (zf_A_feed r1 S) := by
  intro S h0
  unfold zf_A_feed
  refine Kf.bd ((zk_P_needOfAll (r0 := (r1)) (fun _ _ _ _ h => h.elim)) _ _ h0) (fun a1 S2 h1 => ?_)
  refine Kf.ite ?_ ?_
  · skip
    refine Kf.bd ((zk_A_shareOut (r1 := (r1)) (fun g r k i h => hW g r k i (Or.elim h (fun h => (Or.inr (Or.inl ⟨h.1, h.2.1, h.2.2⟩))) (fun h => (Or.elim h (fun h => (Or.inr (Or.inr (Or.inl ⟨h.1, h.2.1, h.2.2⟩)))) (fun h => (Or.elim h (fun h => (Or.inr (Or.inr (Or.inr (Or.inl ⟨h.1, h.2.1, h.2.2⟩))))) (fun h => (Or.elim h (fun h => (Or.inr (Or.inr (Or.inr (Or.inr (Or.inl ⟨h.1, h.2.1, h.2.2.1, h.2.2.2⟩)))))) (fun h => (Or.elim h (fun h => (Or.inr (Or.inr (Or.inr (Or.inr (Or.inr (Or.inl ⟨h.1, h.2.1, h.2.2⟩))))))) (fun h => (Or.inr (Or.inr (Or.inr (Or.inr (Or.inr (Or.inr ⟨h.1, h.2.1, h.2.2⟩)))))))))))))))))) _ h1) (fun a4 S5 h2 => ?_)
    exact (zk_A_feed_58 (r1 := r1) hW) 4096 _ _ h2
  · skip
    refine Kf.put h1 (hW _ _ _ _ (Or.inr (Or.inl ⟨rfl, rfl, rfl⟩))) (fun S6 h3 => ?_)
    refine Kf.bd ((zk_Ja_fill (g0 := 0) (r0 := (r1)) (k0 := (15)) (n0 := 40) (fun g r k i h => hW g r k i (Or.inl ⟨h.1, h.2.1, h.2.2⟩))) _ _ h3) (fun a7 S8 h4 => ?_)
    exact Kf.some h4
def zr_A_isFilled (r1 : Int) (g : Nat) (r k i : Int) : Prop := False
theorem zk_A_isFilled_42 {W : Nat → Int → Int → Int → Prop} {S0 : Sg} {r1 : Int} (hW : ∀ g r k i, zr_A_isFilled r1 g r k i → W g r k i) {q2 : Int → Int → Sg → Option (Int × Sg)} (hq2 : ∀ (x0 x1 : Int) (S : Sg), Fm W S0 S → Kf W S0 (q2 x0 x1 S)) : ∀ (x2 : Int) (x3 : Int) (S : Sg), Fm W S0 S → Kf W S0 (zf_A_isFilled_42 r1 q2 x2 x3 S) := by
  intro x2 x3 S h0
  unfold zf_A_isFilled_42
  refine Kf.lt (fun v1 => ?_)
  exact hq2 _ _ _ h0
theorem zk_A_isFilled_2 {W : Nat → Int → Int → Int → Prop} {S0 : Sg} {r1 : Int} (hW : ∀ g r k i, zr_A_isFilled r1 g r k i → W g r k i) : ∀ (n : Nat) (x2 x3 : Int) (S : Sg), Fm W S0 S → Kf W S0 (zf_A_isFilled_2 r1 n x2 x3 S) := by
  intro n
  induction n with
  | zero => intro x2 x3 S h0; exact Kf.none
  | succ n ih =>
    intro x2 x3 S h0
    rw [zf_A_isFilled_2]
    refine Kf.ite ?_ ?_
    · skip
      exact Kf.some h0
    · skip
      refine Kf.ck ?_
      refine Kf.ite ?_ ?_
      · skip
        exact (zk_A_isFilled_42 (r1 := r1) hW ih) _ _ _ h0
      · skip
        refine Kf.ite ?_ ?_
        · skip
          exact Kf.some h0
        · skip
          exact (zk_A_isFilled_42 (r1 := r1) hW ih) _ _ _ h0
theorem zk_A_isFilled {W : Nat → Int → Int → Int → Prop} {S0 : Sg} {r1 : Int} (hW : ∀ g r k i, zr_A_isFilled r1 g r k i → W g r k i) : ∀ (x2 : Int) (S : Sg), Fm W S0 S → Kf W S0 (zf_A_isFilled r1 x2 S) := by
  intro x2 S h0
  unfold zf_A_isFilled
  exact (zk_A_isFilled_2 (r1 := r1) hW) 4096 _ _ _ h0
def zr_A_noteCares (r1 : Int) (g : Nat) (r k i : Int) : Prop := (g = 3 ∧ r = 0 ∧ k = 19) ∨ (g = 3 ∧ r = 0 ∧ k = 20)
theorem zk_A_noteCares_94 {W : Nat → Int → Int → Int → Prop} {S0 : Sg} {r1 : Int} (hW : ∀ g r k i, zr_A_noteCares r1 g r k i → W g r k i) {q18 : Int → Sg → Option (Int × Sg)} (hq18 : ∀ (x0 : Int) (S : Sg), Fm W S0 S → Kf W S0 (q18 x0 S)) : ∀ (x2 : Int) (S : Sg), Fm W S0 S → Kf W S0 (zf_A_noteCares_94 r1 q18 x2 S) := by
  intro x2 S h0
  unfold zf_A_noteCares_94
  refine Kf.lt (fun v1 => ?_)
  exact hq18 _ _ h0
theorem zk_A_noteCares_74 {W : Nat → Int → Int → Int → Prop} {S0 : Sg} {r1 : Int} (hW : ∀ g r k i, zr_A_noteCares r1 g r k i → W g r k i) {q18 : Int → Sg → Option (Int × Sg)} (hq18 : ∀ (x0 : Int) (S : Sg), Fm W S0 S → Kf W S0 (q18 x0 S)) : ∀ (x2 : Int) (x3 : Int) (S : Sg), Fm W S0 S → Kf W S0 (zf_A_noteCares_74 r1 q18 x2 x3 S) := by
  intro x2 x3 S h0
  unfold zf_A_noteCares_74
  refine Kf.ite ?_ ?_
  · skip
    refine Kf.ck ?_
    refine Kf.ck ?_
    refine Kf.put h0 (hW _ _ _ _ (Or.inr ⟨rfl, rfl, rfl⟩)) (fun S4 h1 => ?_)
    exact (zk_A_noteCares_94 (r1 := r1) hW hq18) _ _ h1
  · skip
    exact (zk_A_noteCares_94 (r1 := r1) hW hq18) _ _ h0
theorem zk_A_noteCares_18 {W : Nat → Int → Int → Int → Prop} {S0 : Sg} {r1 : Int} (hW : ∀ g r k i, zr_A_noteCares r1 g r k i → W g r k i) : ∀ (n : Nat) (x2 : Int) (S : Sg), Fm W S0 S → Kf W S0 (zf_A_noteCares_18 r1 n x2 S) := by
  intro n
  induction n with
  | zero => intro x2 S h0; exact Kf.none
  | succ n ih =>
    intro x2 S h0
    rw [zf_A_noteCares_18]
    refine Kf.ite ?_ ?_
    · skip
      exact Kf.some h0
    · skip
      refine Kf.bd ((zk_P_kind (r0 := (r1)) (fun _ _ _ _ h => h.elim)) _ _ _ h0) (fun a2 S3 h1 => ?_)
      refine Kf.ite ?_ ?_
      · skip
        refine Kf.ck ?_
        refine Kf.ite ?_ ?_
        · skip
          exact (zk_A_noteCares_74 (r1 := r1) hW ih) _ _ _ h1
        · skip
          refine Kf.ck ?_
          refine Kf.put h1 (hW _ _ _ _ (Or.inl ⟨rfl, rfl, rfl⟩)) (fun S8 h2 => ?_)
          exact (zk_A_noteCares_74 (r1 := r1) hW ih) _ _ _ h2
      · skip
        exact (zk_A_noteCares_74 (r1 := r1) hW ih) _ _ _ h1
theorem zk_A_noteCares {W : Nat → Int → Int → Int → Prop} {S0 : Sg} {r1 : Int} (hW : ∀ g r k i, zr_A_noteCares r1 g r k i → W g r k i) : ∀ (S : Sg), Fm W S0 S → Kf W S0 (zf_A_noteCares r1 S) := by
  intro S h0
  unfold zf_A_noteCares
  refine Kf.bd ((zk_Ja_fill (g0 := 3) (r0 := (0)) (k0 := (19)) (n0 := 40) (fun g r k i h => hW g r k i (Or.inl ⟨h.1, h.2.1, h.2.2⟩))) _ _ h0) (fun a1 S2 h1 => ?_)
  refine Kf.bd ((zk_Ja_fill (g0 := 3) (r0 := (0)) (k0 := (20)) (n0 := 12) (fun g r k i h => hW g r k i (Or.inr ⟨h.1, h.2.1, h.2.2⟩))) _ _ h1) (fun a3 S4 h2 => ?_)
  exact (zk_A_noteCares_18 (r1 := r1) hW) 4096 _ _ h2
def zr_A_fret (r1 : Int) (g : Nat) (r k i : Int) : Prop := (g = 0 ∧ r = r1 ∧ k = 13) ∨ (g = 3 ∧ r = 0 ∧ k = 19) ∨ (g = 3 ∧ r = 0 ∧ k = 20)
theorem zk_A_fret_205 {W : Nat → Int → Int → Int → Prop} {S0 : Sg} {r1 : Int} (hW : ∀ g r k i, zr_A_fret r1 g r k i → W g r k i) {q29 : Int → Int → Int → Int → Sg → Option (Int × Sg)} (hq29 : ∀ (x0 x1 x2 x3 : Int) (S : Sg), Fm W S0 S → Kf W S0 (q29 x0 x1 x2 x3 S)) : ∀ (x2 : Int) (x4 : Int) (x5 : Int) (x6 : Int) (S : Sg), Fm W S0 S → Kf W S0 (zf_A_fret_205 r1 q29 x2 x4 x5 x6 S) := by
  intro x2 x4 x5 x6 S h0
  unfold zf_A_fret_205
  refine Kf.lt (fun v1 => ?_)
  exact hq29 _ _ _ _ _ h0
theorem zk_A_fret_184 {W : Nat → Int → Int → Int → Prop} {S0 : Sg} {r1 : Int} (hW : ∀ g r k i, zr_A_fret r1 g r k i → W g r k i) {q29 : Int → Int → Int → Int → Sg → Option (Int × Sg)} (hq29 : ∀ (x0 x1 x2 x3 : Int) (S : Sg), Fm W S0 S → Kf W S0 (q29 x0 x1 x2 x3 S)) : ∀ (x2 : Int) (x4 : Int) (x5 : Int) (x6 : Int) (xt0 : Int) (xt1 : Int) (S : Sg), Fm W S0 S → Kf W S0 (zf_A_fret_184 r1 q29 x2 x4 x5 x6 xt0 xt1 S) := by
  intro x2 x4 x5 x6 xt0 xt1 S h0
  unfold zf_A_fret_184
  refine Kf.lt (fun v1 => ?_)
  refine Kf.ck ?_
  refine Kf.put h0 (hW _ _ _ _ (Or.inl ⟨rfl, rfl, rfl⟩)) (fun S3 h2 => ?_)
  exact (zk_A_fret_205 (r1 := r1) hW hq29) _ _ _ _ _ h2
theorem zk_A_fret_163 {W : Nat → Int → Int → Int → Prop} {S0 : Sg} {r1 : Int} (hW : ∀ g r k i, zr_A_fret r1 g r k i → W g r k i) {q29 : Int → Int → Int → Int → Sg → Option (Int × Sg)} (hq29 : ∀ (x0 x1 x2 x3 : Int) (S : Sg), Fm W S0 S → Kf W S0 (q29 x0 x1 x2 x3 S)) : ∀ (x2 : Int) (x4 : Int) (x5 : Int) (x6 : Int) (xt0 : Int) (xt1 : Int) (S : Sg), Fm W S0 S → Kf W S0 (zf_A_fret_163 r1 q29 x2 x4 x5 x6 xt0 xt1 S) := by
  intro x2 x4 x5 x6 xt0 xt1 S h0
  unfold zf_A_fret_163
  refine Kf.lt (fun v1 => ?_)
  refine Kf.ck ?_
  refine Kf.ite ?_ ?_
  · skip
    exact (zk_A_fret_184 (r1 := r1) hW hq29) _ _ _ _ _ _ _ h0
  · skip
    exact (zk_A_fret_184 (r1 := r1) hW hq29) _ _ _ _ _ _ _ h0
theorem zk_A_fret_149 {W : Nat → Int → Int → Int → Prop} {S0 : Sg} {r1 : Int} (hW : ∀ g r k i, zr_A_fret r1 g r k i → W g r k i) {q29 : Int → Int → Int → Int → Sg → Option (Int × Sg)} (hq29 : ∀ (x0 x1 x2 x3 : Int) (S : Sg), Fm W S0 S → Kf W S0 (q29 x0 x1 x2 x3 S)) : ∀ (x2 : Int) (x4 : Int) (x5 : Int) (x6 : Int) (xt0 : Int) (xt1 : Int) (S : Sg), Fm W S0 S → Kf W S0 (zf_A_fret_149 r1 q29 x2 x4 x5 x6 xt0 xt1 S) := by
  intro x2 x4 x5 x6 xt0 xt1 S h0
  unfold zf_A_fret_149
  refine Kf.lt (fun v1 => ?_)
  refine Kf.ite ?_ ?_
  · skip
    exact (zk_A_fret_163 (r1 := r1) hW hq29) _ _ _ _ _ _ _ h0
  · skip
    exact (zk_A_fret_163 (r1 := r1) hW hq29) _ _ _ _ _ _ _ h0
theorem zk_A_fret_148 {W : Nat → Int → Int → Int → Prop} {S0 : Sg} {r1 : Int} (hW : ∀ g r k i, zr_A_fret r1 g r k i → W g r k i) {q29 : Int → Int → Int → Int → Sg → Option (Int × Sg)} (hq29 : ∀ (x0 x1 x2 x3 : Int) (S : Sg), Fm W S0 S → Kf W S0 (q29 x0 x1 x2 x3 S)) : ∀ (x2 : Int) (x4 : Int) (x5 : Int) (x6 : Int) (xt0 : Int) (S : Sg), Fm W S0 S → Kf W S0 (zf_A_fret_148 r1 q29 x2 x4 x5 x6 xt0 S) := by
  intro x2 x4 x5 x6 xt0 S h0
  unfold zf_A_fret_148
  exact (zk_A_fret_149 (r1 := r1) hW hq29) _ _ _ _ _ _ _ h0
theorem zk_A_fret_118 {W : Nat → Int → Int → Int → Prop} {S0 : Sg} {r1 : Int} (hW : ∀ g r k i, zr_A_fret r1 g r k i → W g r k i) {q29 : Int → Int → Int → Int → Sg → Option (Int × Sg)} (hq29 : ∀ (x0 x1 x2 x3 : Int) (S : Sg), Fm W S0 S → Kf W S0 (q29 x0 x1 x2 x3 S)) : ∀ (x2 : Int) (x4 : Int) (x5 : Int) (x6 : Int) (xt0 : Int) (xt1 : Int) (S : Sg), Fm W S0 S → Kf W S0 (zf_A_fret_118 r1 q29 x2 x4 x5 x6 xt0 xt1 S) := by
  intro x2 x4 x5 x6 xt0 xt1 S h0
  unfold zf_A_fret_118
  refine Kf.lt (fun v1 => ?_)
  refine Kf.ite ?_ ?_
  · skip
    refine Kf.ck ?_
    refine Kf.ck ?_
    refine Kf.ite ?_ ?_
    · skip
      exact (zk_A_fret_149 (r1 := r1) hW hq29) _ _ _ _ _ _ _ h0
    · skip
      exact (zk_A_fret_148 (r1 := r1) hW hq29) _ _ _ _ _ _ h0
  · skip
    exact (zk_A_fret_148 (r1 := r1) hW hq29) _ _ _ _ _ _ h0
theorem zk_A_fret_117 {W : Nat → Int → Int → Int → Prop} {S0 : Sg} {r1 : Int} (hW : ∀ g r k i, zr_A_fret r1 g r k i → W g r k i) {q29 : Int → Int → Int → Int → Sg → Option (Int × Sg)} (hq29 : ∀ (x0 x1 x2 x3 : Int) (S : Sg), Fm W S0 S → Kf W S0 (q29 x0 x1 x2 x3 S)) : ∀ (x2 : Int) (x4 : Int) (x5 : Int) (x6 : Int) (xt0 : Int) (S : Sg), Fm W S0 S → Kf W S0 (zf_A_fret_117 r1 q29 x2 x4 x5 x6 xt0 S) := by
  intro x2 x4 x5 x6 xt0 S h0
  unfold zf_A_fret_117
  exact (zk_A_fret_118 (r1 := r1) hW hq29) _ _ _ _ _ _ _ h0
theorem zk_A_fret_92 {W : Nat → Int → Int → Int → Prop} {S0 : Sg} {r1 : Int} (hW : ∀ g r k i, zr_A_fret r1 g r k i → W g r k i) {q29 : Int → Int → Int → Int → Sg → Option (Int × Sg)} (hq29 : ∀ (x0 x1 x2 x3 : Int) (S : Sg), Fm W S0 S → Kf W S0 (q29 x0 x1 x2 x3 S)) : ∀ (x2 : Int) (x4 : Int) (x5 : Int) (x6 : Int) (xt0 : Int) (xt1 : Int) (S : Sg), Fm W S0 S → Kf W S0 (zf_A_fret_92 r1 q29 x2 x4 x5 x6 xt0 xt1 S) := by
  intro x2 x4 x5 x6 xt0 xt1 S h0
  unfold zf_A_fret_92
  refine Kf.lt (fun v1 => ?_)
  refine Kf.ite ?_ ?_
  · skip
    refine Kf.ck ?_
    refine Kf.ite ?_ ?_
    · skip
      exact (zk_A_fret_118 (r1 := r1) hW hq29) _ _ _ _ _ _ _ h0
    · skip
      exact (zk_A_fret_117 (r1 := r1) hW hq29) _ _ _ _ _ _ h0
  · skip
    exact (zk_A_fret_117 (r1 := r1) hW hq29) _ _ _ _ _ _ h0
theorem zk_A_fret_67 {W : Nat → Int → Int → Int → Prop} {S0 : Sg} {r1 : Int} (hW : ∀ g r k i, zr_A_fret r1 g r k i → W g r k i) {q29 : Int → Int → Int → Int → Sg → Option (Int × Sg)} (hq29 : ∀ (x0 x1 x2 x3 : Int) (S : Sg), Fm W S0 S → Kf W S0 (q29 x0 x1 x2 x3 S)) : ∀ (x2 : Int) (x4 : Int) (x5 : Int) (x6 : Int) (xt0 : Int) (S : Sg), Fm W S0 S → Kf W S0 (zf_A_fret_67 r1 q29 x2 x4 x5 x6 xt0 S) := by
  intro x2 x4 x5 x6 xt0 S h0
  unfold zf_A_fret_67
  refine Kf.ck ?_
  refine Kf.ck ?_
  refine Kf.ite ?_ ?_
  · skip
    exact (zk_A_fret_92 (r1 := r1) hW hq29) _ _ _ _ _ _ _ h0
  · skip
    exact (zk_A_fret_92 (r1 := r1) hW hq29) _ _ _ _ _ _ _ h0
theorem zk_A_fret_29 {W : Nat → Int → Int → Int → Prop} {S0 : Sg} {r1 : Int} (hW : ∀ g r k i, zr_A_fret r1 g r k i → W g r k i) : ∀ (n : Nat) (x2 x4 x5 x6 : Int) (S : Sg), Fm W S0 S → Kf W S0 (zf_A_fret_29 r1 n x2 x4 x5 x6 S) := by
  intro n
  induction n with
  | zero => intro x2 x4 x5 x6 S h0; exact Kf.none
  | succ n ih =>
    intro x2 x4 x5 x6 S h0
    rw [zf_A_fret_29]
    refine Kf.ite ?_ ?_
    · skip
      exact Kf.some h0
    · skip
      refine Kf.ck ?_
      refine Kf.ite ?_ ?_
      · skip
        refine Kf.ite ?_ ?_
        · skip
          exact (zk_A_fret_67 (r1 := r1) hW ih) _ _ _ _ _ _ h0
        · skip
          exact (zk_A_fret_67 (r1 := r1) hW ih) _ _ _ _ _ _ h0
      · skip
        exact (zk_A_fret_205 (r1 := r1) hW ih) _ _ _ _ _ h0
theorem zk_A_fret {W : Nat → Int → Int → Int → Prop} {S0 : Sg} {r1 : Int} (hW : ∀ g r k i, zr_A_fret r1 g r k i → W g r k i) : ∀ (x2 : Int) (S : Sg), Fm W S0 S → Kf W S0 (zf_A_fret r1 x2 S) := by
  intro x2 S h0
  unfold zf_A_fret
  refine Kf.bd ((zk_A_isFilled (r1 := (r1)) (fun _ _ _ _ h => h.elim)) _ _ h0) (fun a1 S2 h1 => ?_)
  refine Kf.bd ((zk_A_isFilled (r1 := (r1)) (fun _ _ _ _ h => h.elim)) _ _ h1) (fun a3 S4 h2 => ?_)
  refine Kf.bd ((zk_A_noteCares (r1 := (r1)) (fun g r k i h => hW g r k i (Or.elim h (fun h => (Or.inr (Or.inl ⟨h.1, h.2.1, h.2.2⟩))) (fun h => (Or.inr (Or.inr ⟨h.1, h.2.1, h.2.2⟩)))))) _ h2) (fun a5 S6 h3 => ?_)
  exact (zk_A_fret_29 (r1 := r1) hW) 4096 _ _ _ _ _ h3
def zr_A_graze (r0 : Int) (g : Nat) (r k i : Int) : Prop := (g = 0 ∧ r = r0 ∧ k = 0 ∧ i = 4) ∨ (g = 0 ∧ r = r0 ∧ k = 2) ∨ (g = 0 ∧ r = r0 ∧ k = 32)
theorem zk_A_graze_10 {W : Nat → Int → Int → Int → Prop} {S0 : Sg} {r0 : Int} (hW : ∀ g r k i, zr_A_graze r0 g r k i → W g r k i) : ∀ (n : Nat) (x2 : Int) (S : Sg), Fm W S0 S → Kf W S0 (zf_A_graze_10 r0 n x2 S) := by
  intro n
  induction n with
  | zero => intro x2 S h0; exact Kf.none
  | succ n ih =>
    intro x2 S h0
    rw [zf_A_graze_10]
    refine Kf.ite ?_ ?_
    · skip
      exact Kf.some h0
    · skip
      refine Kf.ck ?_
      refine Kf.lt (fun v3 => ?_)
      refine Kf.put h0 (hW _ _ _ _ (Or.inl ⟨rfl, rfl, rfl, rfl⟩)) (fun S4 h2 => ?_)
      refine Kf.lt (fun v5 => ?_)
      refine Kf.put h2 (hW _ _ _ _ (Or.inr (Or.inr ⟨rfl, rfl, rfl⟩))) (fun S6 h4 => ?_)
      refine Kf.put h4 (hW _ _ _ _ (Or.inr (Or.inl ⟨rfl, rfl, rfl⟩))) (fun S7 h5 => ?_)
      refine Kf.lt (fun v8 => ?_)
      exact ih _ _ h5
theorem zk_A_graze {W : Nat → Int → Int → Int → Prop} {S0 : Sg} {r0 : Int} (hW : ∀ g r k i, zr_A_graze r0 g r k i → W g r k i) : ∀ (S : Sg), Fm W S0 S → Kf W S0 (zf_A_graze r0 S) := by
  intro S h0
  unfold zf_A_graze
  exact (zk_A_graze_10 (r0 := r0) hW) 4096 _ _ h0
def zr_A_lands (r0 : Int) (g : Nat) (r k i : Int) : Prop := False
theorem zk_A_lands_27 {W : Nat → Int → Int → Int → Prop} {S0 : Sg} {r0 : Int} (hW : ∀ g r k i, zr_A_lands r0 g r k i → W g r k i) : ∀ (x1 : Int) (xt0 : Int) (S : Sg), Fm W S0 S → Kf W S0 (zf_A_lands_27 r0 x1 xt0 S) := by
  intro x1 xt0 S h0
  unfold zf_A_lands_27
  refine Kf.ite ?_ ?_
  · skip
    exact Kf.some h0
  · skip
    refine Kf.ite ?_ ?_
    · skip
      exact Kf.some h0
    · skip
      refine Kf.ite ?_ ?_
      · skip
        exact Kf.some h0
      · skip
        exact Kf.some h0
theorem zk_A_lands_26 {W : Nat → Int → Int → Int → Prop} {S0 : Sg} {r0 : Int} (hW : ∀ g r k i, zr_A_lands r0 g r k i → W g r k i) : ∀ (x1 : Int) (S : Sg), Fm W S0 S → Kf W S0 (zf_A_lands_26 r0 x1 S) := by
  intro x1 S h0
  unfold zf_A_lands_26
  exact (zk_A_lands_27 (r0 := r0) hW) _ _ _ h0
theorem zk_A_lands {W : Nat → Int → Int → Int → Prop} {S0 : Sg} {r0 : Int} (hW : ∀ g r k i, zr_A_lands r0 g r k i → W g r k i) : ∀ (x1 : Int) (S : Sg), Fm W S0 S → Kf W S0 (zf_A_lands r0 x1 S) := by
  intro x1 S h0
  unfold zf_A_lands
  refine Kf.ite ?_ ?_
  · skip
    exact (zk_A_lands_26 (r0 := r0) hW) _ _ h0
  · skip
    refine Kf.ite ?_ ?_
    · skip
      exact (zk_A_lands_27 (r0 := r0) hW) _ _ _ h0
    · skip
      exact (zk_A_lands_26 (r0 := r0) hW) _ _ h0
def zr_P_goAway (r0 : Int) (g : Nat) (r k i : Int) : Prop := (g = 0 ∧ r = r0 ∧ k = 11) ∨ (g = 0 ∧ r = r0 ∧ k = 13)
theorem zk_P_goAway {W : Nat → Int → Int → Int → Prop} {S0 : Sg} {r0 : Int} (hW : ∀ g r k i, zr_P_goAway r0 g r k i → W g r k i) : ∀ (x1 : Int) (S : Sg), Fm W S0 S → Kf W S0 (zf_P_goAway r0 x1 S) := by
  intro x1 S h0
  unfold zf_P_goAway
  refine Kf.ck ?_
  refine Kf.put h0 (hW _ _ _ _ (Or.inl ⟨rfl, rfl, rfl⟩)) (fun S2 h1 => ?_)
  refine Kf.put h1 (hW _ _ _ _ (Or.inr ⟨rfl, rfl, rfl⟩)) (fun S3 h2 => ?_)
  exact Kf.some h2
def zr_A_leave (r1 : Int) (g : Nat) (r k i : Int) : Prop := (g = 0 ∧ r = r1 ∧ k = 11) ∨ (g = 0 ∧ r = r1 ∧ k = 13) ∨ (g = 3 ∧ r = 0 ∧ k = 7 ∧ i = 2) ∨ (g = 3 ∧ r = 0 ∧ k = 8) ∨ (g = 3 ∧ r = 0 ∧ k = 9)
theorem zk_A_leave_134 {W : Nat → Int → Int → Int → Prop} {S0 : Sg} {r1 : Int} (hW : ∀ g r k i, zr_A_leave r1 g r k i → W g r k i) {q7 : Int → Sg → Option (Int × Sg)} (hq7 : ∀ (x0 : Int) (S : Sg), Fm W S0 S → Kf W S0 (q7 x0 S)) : ∀ (x3 : Int) (S : Sg), Fm W S0 S → Kf W S0 (zf_A_leave_134 r1 q7 x3 S) := by
  intro x3 S h0
  unfold zf_A_leave_134
  refine Kf.lt (fun v1 => ?_)
  exact hq7 _ _ h0
theorem zk_A_leave_128 {W : Nat → Int → Int → Int → Prop} {S0 : Sg} {r1 : Int} (hW : ∀ g r k i, zr_A_leave r1 g r k i → W g r k i) {q7 : Int → Sg → Option (Int × Sg)} (hq7 : ∀ (x0 : Int) (S : Sg), Fm W S0 S → Kf W S0 (q7 x0 S)) {q88 : Int → Int → Sg → Option (Int × Sg)} (hq88 : ∀ (x0 x1 : Int) (S : Sg), Fm W S0 S → Kf W S0 (q88 x0 x1 S)) : ∀ (x3 : Int) (x6 : Int) (S : Sg), Fm W S0 S → Kf W S0 (zf_A_leave_128 r1 q7 q88 x3 x6 S) := by
  intro x3 x6 S h0
  unfold zf_A_leave_128
  refine Kf.lt (fun v1 => ?_)
  exact hq88 _ _ _ h0
theorem zk_A_leave_88 {W : Nat → Int → Int → Int → Prop} {S0 : Sg} {r1 : Int} (hW : ∀ g r k i, zr_A_leave r1 g r k i → W g r k i) {q7 : Int → Sg → Option (Int × Sg)} (hq7 : ∀ (x0 : Int) (S : Sg), Fm W S0 S → Kf W S0 (q7 x0 S)) : ∀ (n : Nat) (x3 x6 : Int) (S : Sg), Fm W S0 S → Kf W S0 (zf_A_leave_88 r1 q7 n x3 x6 S) := by
  intro n
  induction n with
  | zero => intro x3 x6 S h0; exact Kf.none
  | succ n ih =>
    intro x3 x6 S h0
    rw [zf_A_leave_88]
    refine Kf.ite ?_ ?_
    · skip
      exact (zk_A_leave_134 (r1 := r1) hW hq7) _ _ h0
    · skip
      refine Kf.ck ?_
      refine Kf.ite ?_ ?_
      · skip
        refine Kf.bd ((zk_P_kind (r0 := (r1)) (fun _ _ _ _ h => h.elim)) _ _ _ h0) (fun a4 S5 h1 => ?_)
        refine Kf.ite ?_ ?_
        · skip
          refine Kf.bd ((zk_P_goAway (r0 := (r1)) (fun g r k i h => hW g r k i (Or.elim h (fun h => (Or.inl ⟨h.1, h.2.1, h.2.2⟩)) (fun h => (Or.inr (Or.inl ⟨h.1, h.2.1, h.2.2⟩)))))) _ _ h1) (fun a7 S8 h2 => ?_)
          exact (zk_A_leave_128 (r1 := r1) hW hq7 ih) _ _ _ h2
        · skip
          exact (zk_A_leave_128 (r1 := r1) hW hq7 ih) _ _ _ h1
      · skip
        exact (zk_A_leave_128 (r1 := r1) hW hq7 ih) _ _ _ h0
theorem zk_A_leave_57 {W : Nat → Int → Int → Int → Prop} {S0 : Sg} {r1 : Int} (hW : ∀ g r k i, zr_A_leave r1 g r k i → W g r k i) {q7 : Int → Sg → Option (Int × Sg)} (hq7 : ∀ (x0 : Int) (S : Sg), Fm W S0 S → Kf W S0 (q7 x0 S)) : ∀ (x3 : Int) (xt0 : Int) (S : Sg), Fm W S0 S → Kf W S0 (zf_A_leave_57 r1 q7 x3 xt0 S) := by
  intro x3 xt0 S h0
  unfold zf_A_leave_57
  refine Kf.ite ?_ ?_
  · skip
    exact (zk_A_leave_134 (r1 := r1) hW hq7) _ _ h0
  · skip
    refine Kf.bd ((zk_J_allows (r1 := (r1)) (fun g r k i h => hW g r k i (Or.elim h (fun h => (Or.inr (Or.inr (Or.inl ⟨h.1, h.2.1, h.2.2.1, h.2.2.2⟩)))) (fun h => (Or.elim h (fun h => (Or.inr (Or.inr (Or.inr (Or.inl ⟨h.1, h.2.1, h.2.2⟩))))) (fun h => (Or.inr (Or.inr (Or.inr (Or.inr ⟨h.1, h.2.1, h.2.2⟩)))))))))) _ _ _ h0) (fun a2 S3 h1 => ?_)
    refine Kf.ite ?_ ?_
    · skip
      exact (zk_A_leave_134 (r1 := r1) hW hq7) _ _ h1
    · skip
      refine Kf.bd ((zk_P_goAway (r0 := (r1)) (fun g r k i h => hW g r k i (Or.elim h (fun h => (Or.inl ⟨h.1, h.2.1, h.2.2⟩)) (fun h => (Or.inr (Or.inl ⟨h.1, h.2.1, h.2.2⟩)))))) _ _ h1) (fun a5 S6 h2 => ?_)
      exact (zk_A_leave_88 (r1 := r1) hW hq7) 4096 _ _ _ h2
theorem zk_A_leave_56 {W : Nat → Int → Int → Int → Prop} {S0 : Sg} {r1 : Int} (hW : ∀ g r k i, zr_A_leave r1 g r k i → W g r k i) {q7 : Int → Sg → Option (Int × Sg)} (hq7 : ∀ (x0 : Int) (S : Sg), Fm W S0 S → Kf W S0 (q7 x0 S)) : ∀ (x3 : Int) (S : Sg), Fm W S0 S → Kf W S0 (zf_A_leave_56 r1 q7 x3 S) := by
  intro x3 S h0
  unfold zf_A_leave_56
  exact (zk_A_leave_57 (r1 := r1) hW hq7) _ _ _ h0
theorem zk_A_leave_37 {W : Nat → Int → Int → Int → Prop} {S0 : Sg} {r1 : Int} (hW : ∀ g r k i, zr_A_leave r1 g r k i → W g r k i) {q7 : Int → Sg → Option (Int × Sg)} (hq7 : ∀ (x0 : Int) (S : Sg), Fm W S0 S → Kf W S0 (q7 x0 S)) : ∀ (x3 : Int) (S : Sg), Fm W S0 S → Kf W S0 (zf_A_leave_37 r1 q7 x3 S) := by
  intro x3 S h0
  unfold zf_A_leave_37
  refine Kf.ck ?_
  refine Kf.ite ?_ ?_
  · skip
    exact (zk_A_leave_56 (r1 := r1) hW hq7) _ _ h0
  · skip
    exact (zk_A_leave_57 (r1 := r1) hW hq7) _ _ _ h0
theorem zk_A_leave_7 {W : Nat → Int → Int → Int → Prop} {S0 : Sg} {r1 : Int} (hW : ∀ g r k i, zr_A_leave r1 g r k i → W g r k i) : ∀ (n : Nat) (x3 : Int) (S : Sg), Fm W S0 S → Kf W S0 (zf_A_leave_7 r1 n x3 S) := by
  intro n
  induction n with
  | zero => intro x3 S h0; exact Kf.none
  | succ n ih =>
    intro x3 S h0
    rw [zf_A_leave_7]
    refine Kf.ite ?_ ?_
    · skip
      exact Kf.some h0
    · skip
      refine Kf.bd ((zk_P_kind (r0 := (r1)) (fun _ _ _ _ h => h.elim)) _ _ _ h0) (fun a2 S3 h1 => ?_)
      refine Kf.ite ?_ ?_
      · skip
        exact (zk_A_leave_37 (r1 := r1) hW ih) _ _ h1
      · skip
        refine Kf.ite ?_ ?_
        · skip
          exact (zk_A_leave_37 (r1 := r1) hW ih) _ _ h1
        · skip
          exact (zk_A_leave_56 (r1 := r1) hW ih) _ _ h1
theorem zk_A_leave {W : Nat → Int → Int → Int → Prop} {S0 : Sg} {r1 : Int} (hW : ∀ g r k i, zr_A_leave r1 g r k i → W g r k i) : ∀ (S : Sg), Fm W S0 S → Kf W S0 (zf_A_leave r1 S) := by
  intro S h0
  unfold zf_A_leave
  exact (zk_A_leave_7 (r1 := r1) hW) 4096 _ _ h0
def zr_A_letRain (r0 : Int) (g : Nat) (r k i : Int) : Prop := (g = 0 ∧ r = r0 ∧ k = 0 ∧ i = 4) ∨ (g = 0 ∧ r = r0 ∧ k = 3)
theorem zk_A_letRain_15 {W : Nat → Int → Int → Int → Prop} {S0 : Sg} {r0 : Int} (hW : ∀ g r k i, zr_A_letRain r0 g r k i → W g r k i) : ∀ (n : Nat) (x1 x3 : Int) (S : Sg), Fm W S0 S → Kf W S0 (zf_A_letRain_15 r0 n x1 x3 S) := by
  intro n
  induction n with
  | zero => intro x1 x3 S h0; exact Kf.none
  | succ n ih =>
    intro x1 x3 S h0
    rw [zf_A_letRain_15]
    refine Kf.ite ?_ ?_
    · skip
      refine Kf.put h0 (hW _ _ _ _ (Or.inl ⟨rfl, rfl, rfl, rfl⟩)) (fun S2 h1 => ?_)
      exact Kf.some h1
    · skip
      refine Kf.ck ?_
      refine Kf.put h0 (hW _ _ _ _ (Or.inr ⟨rfl, rfl, rfl⟩)) (fun S4 h2 => ?_)
      refine Kf.lt (fun v5 => ?_)
      exact ih _ _ _ h2
theorem zk_A_letRain {W : Nat → Int → Int → Int → Prop} {S0 : Sg} {r0 : Int} (hW : ∀ g r k i, zr_A_letRain r0 g r k i → W g r k i) : ∀ (S : Sg), Fm W S0 S → Kf W S0 (zf_A_letRain r0 S) := by
  intro S h0
  unfold zf_A_letRain
  refine Kf.bd ((zk_Y_at (r0 := (r0)) (k0 := (1)) (fun _ _ _ _ h => h.elim)) _ _ h0) (fun a1 S2 h1 => ?_)
  exact (zk_A_letRain_15 (r0 := r0) hW) 4096 _ _ _ h1
def zr_A_payEach (r0 : Int) (g : Nat) (r k i : Int) : Prop := (g = 0 ∧ r = r0 ∧ k = 0 ∧ i = 1) ∨ (g = 0 ∧ r = r0 ∧ k = 0 ∧ i = 3)
theorem zk_A_payEach_89 {W : Nat → Int → Int → Int → Prop} {S0 : Sg} {r0 : Int} (hW : ∀ g r k i, zr_A_payEach r0 g r k i → W g r k i) {q2 : Int → Int → Sg → Option (Int × Sg)} (hq2 : ∀ (x0 x1 : Int) (S : Sg), Fm W S0 S → Kf W S0 (q2 x0 x1 S)) : ∀ (x1 : Int) (x2 : Int) (S : Sg), Fm W S0 S → Kf W S0 (zf_A_payEach_89 r0 q2 x1 x2 S) := by
  intro x1 x2 S h0
  unfold zf_A_payEach_89
  refine Kf.lt (fun v1 => ?_)
  exact hq2 _ _ _ h0
theorem zk_A_payEach_52 {W : Nat → Int → Int → Int → Prop} {S0 : Sg} {r0 : Int} (hW : ∀ g r k i, zr_A_payEach r0 g r k i → W g r k i) {q2 : Int → Int → Sg → Option (Int × Sg)} (hq2 : ∀ (x0 x1 : Int) (S : Sg), Fm W S0 S → Kf W S0 (q2 x0 x1 S)) : ∀ (x1 : Int) (x2 : Int) (x3 : Int) (xt0 : Int) (xt1 : Int) (S : Sg), Fm W S0 S → Kf W S0 (zf_A_payEach_52 r0 q2 x1 x2 x3 xt0 xt1 S) := by
  intro x1 x2 x3 xt0 xt1 S h0
  unfold zf_A_payEach_52
  refine Kf.ite ?_ ?_
  · skip
    refine Kf.ite ?_ ?_
    · skip
      refine Kf.put h0 (hW _ _ _ _ (Or.inr ⟨rfl, rfl, rfl, rfl⟩)) (fun S3 h1 => ?_)
      exact (zk_A_payEach_89 (r0 := r0) hW hq2) _ _ _ h1
    · skip
      refine Kf.put h0 (hW _ _ _ _ (Or.inl ⟨rfl, rfl, rfl, rfl⟩)) (fun S4 h2 => ?_)
      exact (zk_A_payEach_89 (r0 := r0) hW hq2) _ _ _ h2
  · skip
    exact (zk_A_payEach_89 (r0 := r0) hW hq2) _ _ _ h0
theorem zk_A_payEach_2 {W : Nat → Int → Int → Int → Prop} {S0 : Sg} {r0 : Int} (hW : ∀ g r k i, zr_A_payEach r0 g r k i → W g r k i) : ∀ (n : Nat) (x1 x2 : Int) (S : Sg), Fm W S0 S → Kf W S0 (zf_A_payEach_2 r0 n x1 x2 S) := by
  intro n
  induction n with
  | zero => intro x1 x2 S h0; exact Kf.none
  | succ n ih =>
    intro x1 x2 S h0
    rw [zf_A_payEach_2]
    refine Kf.ite ?_ ?_
    · skip
      exact Kf.some h0
    · skip
      refine Kf.bd ((zk_P_wage (r0 := (r0)) (fun _ _ _ _ h => h.elim)) _ _ _ h0) (fun a2 S3 h1 => ?_)
      refine Kf.ite ?_ ?_
      · skip
        exact (zk_A_payEach_89 (r0 := r0) hW ih) _ _ _ h1
      · skip
        refine Kf.bd ((zk_P_kind (r0 := (r0)) (fun _ _ _ _ h => h.elim)) _ _ _ h1) (fun a5 S6 h2 => ?_)
        refine Kf.ite ?_ ?_
        · skip
          exact (zk_A_payEach_52 (r0 := r0) hW ih) _ _ _ _ _ _ h2
        · skip
          exact (zk_A_payEach_52 (r0 := r0) hW ih) _ _ _ _ _ _ h2
theorem zk_A_payEach {W : Nat → Int → Int → Int → Prop} {S0 : Sg} {r0 : Int} (hW : ∀ g r k i, zr_A_payEach r0 g r k i → W g r k i) : ∀ (x1 : Int) (S : Sg), Fm W S0 S → Kf W S0 (zf_A_payEach r0 x1 S) := by
  intro x1 S h0
  unfold zf_A_payEach
  exact (zk_A_payEach_2 (r0 := r0) hW) 4096 _ _ _ h0
def zr_A_payMonth (r0 : Int) (g : Nat) (r k i : Int) : Prop := (g = 0 ∧ r = r0 ∧ k = 0 ∧ i = 1) ∨ (g = 0 ∧ r = r0 ∧ k = 0 ∧ i = 2) ∨ (g = 0 ∧ r = r0 ∧ k = 0 ∧ i = 3)
theorem zk_A_payMonth_98 {W : Nat → Int → Int → Int → Prop} {S0 : Sg} {r0 : Int} (hW : ∀ g r k i, zr_A_payMonth r0 g r k i → W g r k i) {q31 : Int → Int → Sg → Option (Int × Sg)} (hq31 : ∀ (x0 x1 : Int) (S : Sg), Fm W S0 S → Kf W S0 (q31 x0 x1 S)) : ∀ (x1 : Int) (x2 : Int) (S : Sg), Fm W S0 S → Kf W S0 (zf_A_payMonth_98 r0 q31 x1 x2 S) := by
  intro x1 x2 S h0
  unfold zf_A_payMonth_98
  refine Kf.lt (fun v1 => ?_)
  exact hq31 _ _ _ h0
theorem zk_A_payMonth_64 {W : Nat → Int → Int → Int → Prop} {S0 : Sg} {r0 : Int} (hW : ∀ g r k i, zr_A_payMonth r0 g r k i → W g r k i) {q31 : Int → Int → Sg → Option (Int × Sg)} (hq31 : ∀ (x0 x1 : Int) (S : Sg), Fm W S0 S → Kf W S0 (q31 x0 x1 S)) : ∀ (x1 : Int) (x2 : Int) (xt1 : Int) (S : Sg), Fm W S0 S → Kf W S0 (zf_A_payMonth_64 r0 q31 x1 x2 xt1 S) := by
  intro x1 x2 xt1 S h0
  unfold zf_A_payMonth_64
  refine Kf.bd ((zk_A_payEach (r0 := (r0)) (fun g r k i h => hW g r k i (Or.elim h (fun h => (Or.inl ⟨h.1, h.2.1, h.2.2.1, h.2.2.2⟩)) (fun h => (Or.inr (Or.inr ⟨h.1, h.2.1, h.2.2.1, h.2.2.2⟩)))))) _ _ h0) (fun a1 S2 h1 => ?_)
  exact (zk_A_payMonth_98 (r0 := r0) hW hq31) _ _ _ h1
theorem zk_A_payMonth_53 {W : Nat → Int → Int → Int → Prop} {S0 : Sg} {r0 : Int} (hW : ∀ g r k i, zr_A_payMonth r0 g r k i → W g r k i) {q31 : Int → Int → Sg → Option (Int × Sg)} (hq31 : ∀ (x0 x1 : Int) (S : Sg), Fm W S0 S → Kf W S0 (q31 x0 x1 S)) : ∀ (x1 : Int) (x2 : Int) (x3 : Int) (S : Sg), Fm W S0 S → Kf W S0 (zf_A_payMonth_53 r0 q31 x1 x2 x3 S) := by
  intro x1 x2 x3 S h0
  unfold zf_A_payMonth_53
  refine Kf.ite ?_ ?_
  · skip
    exact (zk_A_payMonth_64 (r0 := r0) hW hq31) _ _ _ _ h0
  · skip
    exact (zk_A_payMonth_64 (r0 := r0) hW hq31) _ _ _ _ h0
theorem zk_A_payMonth_31 {W : Nat → Int → Int → Int → Prop} {S0 : Sg} {r0 : Int} (hW : ∀ g r k i, zr_A_payMonth r0 g r k i → W g r k i) : ∀ (n : Nat) (x1 x2 : Int) (S : Sg), Fm W S0 S → Kf W S0 (zf_A_payMonth_31 r0 n x1 x2 S) := by
  intro n
  induction n with
  | zero => intro x1 x2 S h0; exact Kf.none
  | succ n ih =>
    intro x1 x2 S h0
    rw [zf_A_payMonth_31]
    refine Kf.ite ?_ ?_
    · skip
      exact Kf.some h0
    · skip
      refine Kf.lt (fun v2 => ?_)
      refine Kf.lt (fun v3 => ?_)
      refine Kf.ite ?_ ?_
      · skip
        exact (zk_A_payMonth_53 (r0 := r0) hW ih) _ _ _ _ h0
      · skip
        refine Kf.ite ?_ ?_
        · skip
          exact (zk_A_payMonth_53 (r0 := r0) hW ih) _ _ _ _ h0
        · skip
          refine Kf.ite ?_ ?_
          · skip
            exact (zk_A_payMonth_98 (r0 := r0) hW ih) _ _ _ h0
          · skip
            refine Kf.put h0 (hW _ _ _ _ (Or.inl ⟨rfl, rfl, rfl, rfl⟩)) (fun S7 h3 => ?_)
            refine Kf.put h3 (hW _ _ _ _ (Or.inr (Or.inl ⟨rfl, rfl, rfl, rfl⟩))) (fun S8 h4 => ?_)
            exact (zk_A_payMonth_98 (r0 := r0) hW ih) _ _ _ h4
theorem zk_A_payMonth {W : Nat → Int → Int → Int → Prop} {S0 : Sg} {r0 : Int} (hW : ∀ g r k i, zr_A_payMonth r0 g r k i → W g r k i) : ∀ (S : Sg), Fm W S0 S → Kf W S0 (zf_A_payMonth r0 S) := by
  intro S h0
  unfold zf_A_payMonth
  refine Kf.bd ((zk_P_in (r0 := (r0)) (fun _ _ _ _ h => h.elim)) _ _ h0) (fun a1 S2 h1 => ?_)
  refine Kf.put h1 (hW _ _ _ _ (Or.inl ⟨rfl, rfl, rfl, rfl⟩)) (fun S4 h2 => ?_)
  refine Kf.lt (fun v5 => ?_)
  exact (zk_A_payMonth_31 (r0 := r0) hW) 4096 _ _ _ h2
def zr_A_sendGuestsOff (r0 : Int) (g : Nat) (r k i : Int) : Prop := (g = 0 ∧ r = r0 ∧ k = 11)
theorem zk_A_sendGuestsOff_53 {W : Nat → Int → Int → Int → Prop} {S0 : Sg} {r0 : Int} (hW : ∀ g r k i, zr_A_sendGuestsOff r0 g r k i → W g r k i) {q7 : Int → Sg → Option (Int × Sg)} (hq7 : ∀ (x0 : Int) (S : Sg), Fm W S0 S → Kf W S0 (q7 x0 S)) : ∀ (x2 : Int) (S : Sg), Fm W S0 S → Kf W S0 (zf_A_sendGuestsOff_53 r0 q7 x2 S) := by
  intro x2 S h0
  unfold zf_A_sendGuestsOff_53
  refine Kf.lt (fun v1 => ?_)
  exact hq7 _ _ h0
theorem zk_A_sendGuestsOff_7 {W : Nat → Int → Int → Int → Prop} {S0 : Sg} {r0 : Int} (hW : ∀ g r k i, zr_A_sendGuestsOff r0 g r k i → W g r k i) : ∀ (n : Nat) (x2 : Int) (S : Sg), Fm W S0 S → Kf W S0 (zf_A_sendGuestsOff_7 r0 n x2 S) := by
  intro n
  induction n with
  | zero => intro x2 S h0; exact Kf.none
  | succ n ih =>
    intro x2 S h0
    rw [zf_A_sendGuestsOff_7]
    refine Kf.ite ?_ ?_
    · skip
      exact Kf.some h0
    · skip
      refine Kf.ck ?_
      refine Kf.ite ?_ ?_
      · skip
        refine Kf.ite ?_ ?_
        · skip
          exact (zk_A_sendGuestsOff_53 (r0 := r0) hW ih) _ _ h0
        · skip
          refine Kf.ite ?_ ?_
          · skip
            exact (zk_A_sendGuestsOff_53 (r0 := r0) hW ih) _ _ h0
          · skip
            refine Kf.put h0 (hW _ _ _ _ ⟨rfl, rfl, rfl⟩) (fun S6 h1 => ?_)
            exact (zk_A_sendGuestsOff_53 (r0 := r0) hW ih) _ _ h1
      · skip
        exact (zk_A_sendGuestsOff_53 (r0 := r0) hW ih) _ _ h0
theorem zk_A_sendGuestsOff {W : Nat → Int → Int → Int → Prop} {S0 : Sg} {r0 : Int} (hW : ∀ g r k i, zr_A_sendGuestsOff r0 g r k i → W g r k i) : ∀ (S : Sg), Fm W S0 S → Kf W S0 (zf_A_sendGuestsOff r0 S) := by
  intro S h0
  unfold zf_A_sendGuestsOff
  exact (zk_A_sendGuestsOff_7 (r0 := r0) hW) 4096 _ _ h0
def zr_T_gain (r0 : Int) (g : Nat) (r k i : Int) : Prop := (g = 0 ∧ r = r0 ∧ k = 32)
theorem zk_T_gain {W : Nat → Int → Int → Int → Prop} {S0 : Sg} {r0 : Int} (hW : ∀ g r k i, zr_T_gain r0 g r k i → W g r k i) : ∀ (x1 : Int) (x2 : Int) (S : Sg), Fm W S0 S → Kf W S0 (zf_T_gain r0 x1 x2 S) := by
  intro x1 x2 S h0
  unfold zf_T_gain
  refine Kf.ck ?_
  refine Kf.put h0 (hW _ _ _ _ ⟨rfl, rfl, rfl⟩) (fun S2 h1 => ?_)
  exact Kf.some h1
def zr_A_work (r1 : Int) (g : Nat) (r k i : Int) : Prop := (g = 0 ∧ r = r1 ∧ k = 14) ∨ (g = 0 ∧ r = r1 ∧ k = 32)
theorem zk_A_work_142 {W : Nat → Int → Int → Int → Prop} {S0 : Sg} {r1 : Int} (hW : ∀ g r k i, zr_A_work r1 g r k i → W g r k i) {q31 : Int → Int → Sg → Option (Int × Sg)} (hq31 : ∀ (x0 x1 : Int) (S : Sg), Fm W S0 S → Kf W S0 (q31 x0 x1 S)) : ∀ (x2 : Int) (x3 : Int) (S : Sg), Fm W S0 S → Kf W S0 (zf_A_work_142 r1 q31 x2 x3 S) := by
  intro x2 x3 S h0
  unfold zf_A_work_142
  refine Kf.lt (fun v1 => ?_)
  exact hq31 _ _ _ h0
theorem zk_A_work_104 {W : Nat → Int → Int → Int → Prop} {S0 : Sg} {r1 : Int} (hW : ∀ g r k i, zr_A_work r1 g r k i → W g r k i) {q31 : Int → Int → Sg → Option (Int × Sg)} (hq31 : ∀ (x0 x1 : Int) (S : Sg), Fm W S0 S → Kf W S0 (q31 x0 x1 S)) : ∀ (x2 : Int) (x3 : Int) (x4 : Int) (S : Sg), Fm W S0 S → Kf W S0 (zf_A_work_104 r1 q31 x2 x3 x4 S) := by
  intro x2 x3 x4 S h0
  unfold zf_A_work_104
  refine Kf.ite ?_ ?_
  · skip
    exact (zk_A_work_142 (r1 := r1) hW hq31) _ _ _ h0
  · skip
    refine Kf.ck ?_
    refine Kf.ite ?_ ?_
    · skip
      refine Kf.ite ?_ ?_
      · skip
        exact (zk_A_work_142 (r1 := r1) hW hq31) _ _ _ h0
      · skip
        refine Kf.bd ((zk_T_gain (r0 := (r1)) (fun g r k i h => hW g r k i (Or.inr ⟨h.1, h.2.1, h.2.2⟩))) _ _ _ h0) (fun a5 S6 h1 => ?_)
        exact (zk_A_work_142 (r1 := r1) hW hq31) _ _ _ h1
    · skip
      exact (zk_A_work_142 (r1 := r1) hW hq31) _ _ _ h0
theorem zk_A_work_98 {W : Nat → Int → Int → Int → Prop} {S0 : Sg} {r1 : Int} (hW : ∀ g r k i, zr_A_work r1 g r k i → W g r k i) {q31 : Int → Int → Sg → Option (Int × Sg)} (hq31 : ∀ (x0 x1 : Int) (S : Sg), Fm W S0 S → Kf W S0 (q31 x0 x1 S)) {q56 : Int → Int → Int → Int → Sg → Option (Int × Sg)} (hq56 : ∀ (x0 x1 x2 x3 : Int) (S : Sg), Fm W S0 S → Kf W S0 (q56 x0 x1 x2 x3 S)) : ∀ (x2 : Int) (x3 : Int) (x4 : Int) (x6 : Int) (S : Sg), Fm W S0 S → Kf W S0 (zf_A_work_98 r1 q31 q56 x2 x3 x4 x6 S) := by
  intro x2 x3 x4 x6 S h0
  unfold zf_A_work_98
  refine Kf.lt (fun v1 => ?_)
  exact hq56 _ _ _ _ _ h0
theorem zk_A_work_56 {W : Nat → Int → Int → Int → Prop} {S0 : Sg} {r1 : Int} (hW : ∀ g r k i, zr_A_work r1 g r k i → W g r k i) {q31 : Int → Int → Sg → Option (Int × Sg)} (hq31 : ∀ (x0 x1 : Int) (S : Sg), Fm W S0 S → Kf W S0 (q31 x0 x1 S)) : ∀ (n : Nat) (x2 x3 x4 x6 : Int) (S : Sg), Fm W S0 S → Kf W S0 (zf_A_work_56 r1 q31 n x2 x3 x4 x6 S) := by
  intro n
  induction n with
  | zero => intro x2 x3 x4 x6 S h0; exact Kf.none
  | succ n ih =>
    intro x2 x3 x4 x6 S h0
    rw [zf_A_work_56]
    refine Kf.ite ?_ ?_
    · skip
      exact (zk_A_work_104 (r1 := r1) hW hq31) _ _ _ _ h0
    · skip
      refine Kf.ite ?_ ?_
      · skip
        exact (zk_A_work_104 (r1 := r1) hW hq31) _ _ _ _ h0
      · skip
        refine Kf.ite ?_ ?_
        · skip
          refine Kf.ck ?_
          refine Kf.put h0 (hW _ _ _ _ (Or.inl ⟨rfl, rfl, rfl⟩)) (fun S5 h1 => ?_)
          exact (zk_A_work_98 (r1 := r1) hW hq31 ih) _ _ _ _ _ h1
        · skip
          exact (zk_A_work_98 (r1 := r1) hW hq31 ih) _ _ _ _ _ h0
theorem zk_A_work_31 {W : Nat → Int → Int → Int → Prop} {S0 : Sg} {r1 : Int} (hW : ∀ g r k i, zr_A_work r1 g r k i → W g r k i) : ∀ (n : Nat) (x2 x3 : Int) (S : Sg), Fm W S0 S → Kf W S0 (zf_A_work_31 r1 n x2 x3 S) := by
  intro n
  induction n with
  | zero => intro x2 x3 S h0; exact Kf.none
  | succ n ih =>
    intro x2 x3 S h0
    rw [zf_A_work_31]
    refine Kf.ite ?_ ?_
    · skip
      exact Kf.some h0
    · skip
      refine Kf.ck ?_
      refine Kf.lt (fun v3 => ?_)
      exact (zk_A_work_56 (r1 := r1) hW ih) 4096 _ _ _ _ _ h0
theorem zk_A_work_2 {W : Nat → Int → Int → Int → Prop} {S0 : Sg} {r1 : Int} (hW : ∀ g r k i, zr_A_work r1 g r k i → W g r k i) : ∀ (n : Nat) (x2 x3 : Int) (S : Sg), Fm W S0 S → Kf W S0 (zf_A_work_2 r1 n x2 x3 S) := by
  intro n
  induction n with
  | zero => intro x2 x3 S h0; exact Kf.none
  | succ n ih =>
    intro x2 x3 S h0
    rw [zf_A_work_2]
    refine Kf.ite ?_ ?_
    · skip
      exact (zk_A_work_31 (r1 := r1) hW) 4096 _ _ _ h0
    · skip
      refine Kf.ck ?_
      refine Kf.put h0 (hW _ _ _ _ (Or.inl ⟨rfl, rfl, rfl⟩)) (fun S3 h1 => ?_)
      refine Kf.lt (fun v4 => ?_)
      exact ih _ _ _ h1
theorem zk_A_work {W : Nat → Int → Int → Int → Prop} {S0 : Sg} {r1 : Int} (hW : ∀ g r k i, zr_A_work r1 g r k i → W g r k i) : ∀ (x2 : Int) (S : Sg), Fm W S0 S → Kf W S0 (zf_A_work r1 x2 S) := by
  intro x2 S h0
  unfold zf_A_work
  exact (zk_A_work_2 (r1 := r1) hW) 4096 _ _ _ h0
def zr_T_load (r0 : Int) (g : Nat) (r k i : Int) : Prop := (g = 0 ∧ r = r0 ∧ k = 32) ∨ (g = 0 ∧ r = r0 ∧ k = 36)
theorem zk_T_load_81 {W : Nat → Int → Int → Int → Prop} {S0 : Sg} {r0 : Int} (hW : ∀ g r k i, zr_T_load r0 g r k i → W g r k i) {q4 : Int → Int → Sg → Option (Int × Sg)} (hq4 : ∀ (x0 x1 : Int) (S : Sg), Fm W S0 S → Kf W S0 (q4 x0 x1 S)) {q13 : Int → Int → Int → Sg → Option (Int × Sg)} (hq13 : ∀ (x0 x1 x2 : Int) (S : Sg), Fm W S0 S → Kf W S0 (q13 x0 x1 x2 S)) : ∀ (x2 : Int) (x3 : Int) (x4 : Int) (S : Sg), Fm W S0 S → Kf W S0 (zf_T_load_81 r0 q4 q13 x2 x3 x4 S) := by
  intro x2 x3 x4 S h0
  unfold zf_T_load_81
  refine Kf.lt (fun v1 => ?_)
  exact hq13 _ _ _ _ h0
theorem zk_T_load_13 {W : Nat → Int → Int → Int → Prop} {S0 : Sg} {r0 : Int} (hW : ∀ g r k i, zr_T_load r0 g r k i → W g r k i) {q4 : Int → Int → Sg → Option (Int × Sg)} (hq4 : ∀ (x0 x1 : Int) (S : Sg), Fm W S0 S → Kf W S0 (q4 x0 x1 S)) : ∀ (n : Nat) (x2 x3 x4 : Int) (S : Sg), Fm W S0 S → Kf W S0 (zf_T_load_13 r0 q4 n x2 x3 x4 S) := by
  intro n
  induction n with
  | zero => intro x2 x3 x4 S h0; exact Kf.none
  | succ n ih =>
    intro x2 x3 x4 S h0
    rw [zf_T_load_13]
    refine Kf.ite ?_ ?_
    · skip
      refine Kf.lt (fun v2 => ?_)
      exact hq4 _ _ _ h0
    · skip
      refine Kf.ck ?_
      refine Kf.ck ?_
      refine Kf.ite ?_ ?_
      · skip
        refine Kf.lt (fun v6 => ?_)
        refine Kf.lt (fun v7 => ?_)
        refine Kf.put h0 (hW _ _ _ _ (Or.inr ⟨rfl, rfl, rfl⟩)) (fun S8 h4 => ?_)
        refine Kf.bd ((zk_T_gain (r0 := (r0)) (fun g r k i h => hW g r k i (Or.inl ⟨h.1, h.2.1, h.2.2⟩))) _ _ _ h4) (fun a9 S10 h5 => ?_)
        exact (zk_T_load_81 (r0 := r0) hW hq4 ih) _ _ _ _ h5
      · skip
        exact (zk_T_load_81 (r0 := r0) hW hq4 ih) _ _ _ _ h0
theorem zk_T_load_4 {W : Nat → Int → Int → Int → Prop} {S0 : Sg} {r0 : Int} (hW : ∀ g r k i, zr_T_load r0 g r k i → W g r k i) : ∀ (n : Nat) (x2 x3 : Int) (S : Sg), Fm W S0 S → Kf W S0 (zf_T_load_4 r0 n x2 x3 S) := by
  intro n
  induction n with
  | zero => intro x2 x3 S h0; exact Kf.none
  | succ n ih =>
    intro x2 x3 S h0
    rw [zf_T_load_4]
    refine Kf.ite ?_ ?_
    · skip
      exact Kf.some h0
    · skip
      exact (zk_T_load_13 (r0 := r0) hW ih) 4096 _ _ _ _ h0
theorem zk_T_load {W : Nat → Int → Int → Int → Prop} {S0 : Sg} {r0 : Int} (hW : ∀ g r k i, zr_T_load r0 g r k i → W g r k i) : ∀ (x1 : Int) (S : Sg), Fm W S0 S → Kf W S0 (zf_T_load r0 x1 S) := by
  intro x1 S h0
  unfold zf_T_load
  exact (zk_T_load_4 (r0 := r0) hW) 4096 _ _ _ h0
def zr_A_pass (r1 : Int) (g : Nat) (r k i : Int) : Prop := (g = 0 ∧ r = r1 ∧ k = 0 ∧ i = 0) ∨ (g = 0 ∧ r = r1 ∧ k = 0 ∧ i = 1) ∨ (g = 0 ∧ r = r1 ∧ k = 0 ∧ i = 2) ∨ (g = 0 ∧ r = r1 ∧ k = 0 ∧ i = 3) ∨ (g = 0 ∧ r = r1 ∧ k = 0 ∧ i = 4) ∨ (g = 0 ∧ r = r1 ∧ k = 0 ∧ i = 6) ∨ (g = 0 ∧ r = r1 ∧ k = 11) ∨ (g = 0 ∧ r = r1 ∧ k = 13) ∨ (g = 0 ∧ r = r1 ∧ k = 14) ∨ (g = 0 ∧ r = r1 ∧ k = 15) ∨ (g = 0 ∧ r = r1 ∧ k = 2) ∨ (g = 0 ∧ r = r1 ∧ k = 3) ∨ (g = 0 ∧ r = r1 ∧ k = 32) ∨ (g = 0 ∧ r = r1 ∧ k = 36) ∨ (g = 0 ∧ r = r1 ∧ k = 5) ∨ (g = 20 ∧ r = 0 ∧ k = 0) ∨ (g = 20 ∧ r = 0 ∧ k = 1) ∨ (g = 20 ∧ r = 0 ∧ k = 2) ∨ (g = 3 ∧ r = 0 ∧ k = 10 ∧ i = 5) ∨ (g = 3 ∧ r = 0 ∧ k = 11) ∨ (g = 3 ∧ r = 0 ∧ k = 12) ∨ (g = 3 ∧ r = 0 ∧ k = 13) ∨ (g = 3 ∧ r = 0 ∧ k = 14) ∨ (g = 3 ∧ r = 0 ∧ k = 15 ∧ i = 7) ∨ (g = 3 ∧ r = 0 ∧ k = 16) ∨ (g = 3 ∧ r = 0 ∧ k = 17) ∨ (g = 3 ∧ r = 0 ∧ k = 18) ∨ (g = 3 ∧ r = 0 ∧ k = 19) ∨ (g = 3 ∧ r = 0 ∧ k = 20) ∨ (g = 3 ∧ r = 0 ∧ k = 7 ∧ i = 2) ∨ (g = 3 ∧ r = 0 ∧ k = 8) ∨ (g = 3 ∧ r = 0 ∧ k = 9) ∨ (g = 4 ∧ k = 0)
theorem zk_A_pass_157 {W : Nat → Int → Int → Int → Prop} {S0 : Sg} {r1 : Int} (hW : ∀ g r k i, zr_A_pass r1 g r k i → W g r k i) : ∀ (x4 : Int) (S : Sg), Fm W S0 S → Kf W S0 (zf_A_pass_157 r1 x4 S) := by
  intro x4 S h0
  unfold zf_A_pass_157
  refine Kf.put h0 (hW _ _ _ _ (Or.inl ⟨rfl, rfl, rfl, rfl⟩)) (fun S1 h1 => ?_)
  exact Kf.some h1
theorem zk_A_pass_148 {W : Nat → Int → Int → Int → Prop} {S0 : Sg} {r1 : Int} (hW : ∀ g r k i, zr_A_pass r1 g r k i → W g r k i) : ∀ (x3 : Int) (x4 : Int) (S : Sg), Fm W S0 S → Kf W S0 (zf_A_pass_148 r1 x3 x4 S) := by
  intro x3 x4 S h0
  unfold zf_A_pass_148
  refine Kf.ite ?_ ?_
  · skip
    exact (zk_A_pass_157 (r1 := r1) hW) _ _ h0
  · skip
    refine Kf.bd ((zk_A_leave (r1 := (r1)) (fun g r k i h => hW g r k i (Or.elim h (fun h => (Or.inr (Or.inr (Or.inr (Or.inr (Or.inr (Or.inr (Or.inl ⟨h.1, h.2.1, h.2.2⟩)))))))) (fun h => (Or.elim h (fun h => (Or.inr (Or.inr (Or.inr (Or.inr (Or.inr (Or.inr (Or.inr (Or.inl ⟨h.1, h.2.1, h.2.2⟩))))))))) (fun h => (Or.elim h (fun h => (Or.inr (Or.inr (Or.inr (Or.inr (Or.inr (Or.inr (Or.inr (Or.inr (Or.inr (Or.inr (Or.inr (Or.inr (Or.inr (Or.inr (Or.inr (Or.inr (Or.inr (Or.inr (Or.inr (Or.inr (Or.inr (Or.inr (Or.inr (Or.inr (Or.inr (Or.inr (Or.inr (Or.inr (Or.inr (Or.inl ⟨h.1, h.2.1, h.2.2.1, h.2.2.2⟩))))))))))))))))))))))))))))))) (fun h => (Or.elim h (fun h => (Or.inr (Or.inr (Or.inr (Or.inr (Or.inr (Or.inr (Or.inr (Or.inr (Or.inr (Or.inr (Or.inr (Or.inr (Or.inr (Or.inr (Or.inr (Or.inr (Or.inr (Or.inr (Or.inr (Or.inr (Or.inr (Or.inr (Or.inr (Or.inr (Or.inr (Or.inr (Or.inr (Or.inr (Or.inr (Or.inr (Or.inl ⟨h.1, h.2.1, h.2.2⟩)))))))))))))))))))))))))))))))) (fun h => (Or.inr (Or.inr (Or.inr (Or.inr (Or.inr (Or.inr (Or.inr (Or.inr (Or.inr (Or.inr (Or.inr (Or.inr (Or.inr (Or.inr (Or.inr (Or.inr (Or.inr (Or.inr (Or.inr (Or.inr (Or.inr (Or.inr (Or.inr (Or.inr (Or.inr (Or.inr (Or.inr (Or.inr (Or.inr (Or.inr (Or.inr (Or.inl ⟨h.1, h.2.1, h.2.2⟩)))))))))))))))))))))))))))))))))))))))))) _ h0) (fun a2 S3 h1 => ?_)
    exact (zk_A_pass_157 (r1 := r1) hW) _ _ h1
theorem zk_A_pass_131 {W : Nat → Int → Int → Int → Prop} {S0 : Sg} {r1 : Int} (hW : ∀ g r k i, zr_A_pass r1 g r k i → W g r k i) : ∀ (x3 : Int) (x4 : Int) (xt2 : Int) (S : Sg), Fm W S0 S → Kf W S0 (zf_A_pass_131 r1 x3 x4 xt2 S) := by
  intro x3 x4 xt2 S h0
  unfold zf_A_pass_131
  refine Kf.bd ((zk_A_fret (r1 := (r1)) (fun g r k i h => hW g r k i (Or.elim h (fun h => (Or.inr (Or.inr (Or.inr (Or.inr (Or.inr (Or.inr (Or.inr (Or.inl ⟨h.1, h.2.1, h.2.2⟩))))))))) (fun h => (Or.elim h (fun h => (Or.inr (Or.inr (Or.inr (Or.inr (Or.inr (Or.inr (Or.inr (Or.inr (Or.inr (Or.inr (Or.inr (Or.inr (Or.inr (Or.inr (Or.inr (Or.inr (Or.inr (Or.inr (Or.inr (Or.inr (Or.inr (Or.inr (Or.inr (Or.inr (Or.inr (Or.inr (Or.inr (Or.inl ⟨h.1, h.2.1, h.2.2⟩))))))))))))))))))))))))))))) (fun h => (Or.inr (Or.inr (Or.inr (Or.inr (Or.inr (Or.inr (Or.inr (Or.inr (Or.inr (Or.inr (Or.inr (Or.inr (Or.inr (Or.inr (Or.inr (Or.inr (Or.inr (Or.inr (Or.inr (Or.inr (Or.inr (Or.inr (Or.inr (Or.inr (Or.inr (Or.inr (Or.inr (Or.inr (Or.inl ⟨h.1, h.2.1, h.2.2⟩))))))))))))))))))))))))))))))))))) _ _ h0) (fun a1 S2 h1 => ?_)
  refine Kf.ite ?_ ?_
  · skip
    refine Kf.bd ((zk_A_payMonth (r0 := (r1)) (fun g r k i h => hW g r k i (Or.elim h (fun h => (Or.inr (Or.inl ⟨h.1, h.2.1, h.2.2.1, h.2.2.2⟩))) (fun h => (Or.elim h (fun h => (Or.inr (Or.inr (Or.inl ⟨h.1, h.2.1, h.2.2.1, h.2.2.2⟩)))) (fun h => (Or.inr (Or.inr (Or.inr (Or.inl ⟨h.1, h.2.1, h.2.2.1, h.2.2.2⟩)))))))))) _ h1) (fun a4 S5 h2 => ?_)
    exact (zk_A_pass_148 (r1 := r1) hW) _ _ _ h2
  · skip
    exact (zk_A_pass_148 (r1 := r1) hW) _ _ _ h1
theorem zk_A_pass_101 {W : Nat → Int → Int → Int → Prop} {S0 : Sg} {r1 : Int} (hW : ∀ g r k i, zr_A_pass r1 g r k i → W g r k i) : ∀ (x3 : Int) (S : Sg), Fm W S0 S → Kf W S0 (zf_A_pass_101 r1 x3 S) := by
  intro x3 S h0
  unfold zf_A_pass_101
  refine Kf.bd ((zk_A_feed (r1 := (r1)) (fun g r k i h => hW g r k i (Or.elim h (fun h => (Or.inr (Or.inr (Or.inr (Or.inr (Or.inr (Or.inr (Or.inr (Or.inr (Or.inr (Or.inl ⟨h.1, h.2.1, h.2.2⟩))))))))))) (fun h => (Or.elim h (fun h => (Or.inr (Or.inr (Or.inr (Or.inr (Or.inr (Or.inr (Or.inr (Or.inr (Or.inr (Or.inr (Or.inr (Or.inr (Or.inl ⟨h.1, h.2.1, h.2.2⟩)))))))))))))) (fun h => (Or.elim h (fun h => (Or.inr (Or.inr (Or.inr (Or.inr (Or.inr (Or.inr (Or.inr (Or.inr (Or.inr (Or.inr (Or.inr (Or.inr (Or.inr (Or.inr (Or.inr (Or.inr (Or.inr (Or.inr (Or.inr (Or.inr (Or.inr (Or.inr (Or.inr (Or.inr (Or.inl ⟨h.1, h.2.1, h.2.2⟩)))))))))))))))))))))))))) (fun h => (Or.elim h (fun h => (Or.inr (Or.inr (Or.inr (Or.inr (Or.inr (Or.inr (Or.inr (Or.inr (Or.inr (Or.inr (Or.inr (Or.inr (Or.inr (Or.inr (Or.inr (Or.inr (Or.inr (Or.inr (Or.inr (Or.inr (Or.inr (Or.inr (Or.inr (Or.inr (Or.inr (Or.inl ⟨h.1, h.2.1, h.2.2⟩))))))))))))))))))))))))))) (fun h => (Or.elim h (fun h => (Or.inr (Or.inr (Or.inr (Or.inr (Or.inr (Or.inr (Or.inr (Or.inr (Or.inr (Or.inr (Or.inr (Or.inr (Or.inr (Or.inr (Or.inr (Or.inr (Or.inr (Or.inr (Or.inr (Or.inr (Or.inr (Or.inr (Or.inr (Or.inr (Or.inr (Or.inr (Or.inr (Or.inr (Or.inr (Or.inl ⟨h.1, h.2.1, h.2.2.1, h.2.2.2⟩))))))))))))))))))))))))))))))) (fun h => (Or.elim h (fun h => (Or.inr (Or.inr (Or.inr (Or.inr (Or.inr (Or.inr (Or.inr (Or.inr (Or.inr (Or.inr (Or.inr (Or.inr (Or.inr (Or.inr (Or.inr (Or.inr (Or.inr (Or.inr (Or.inr (Or.inr (Or.inr (Or.inr (Or.inr (Or.inr (Or.inr (Or.inr (Or.inr (Or.inr (Or.inr (Or.inr (Or.inl ⟨h.1, h.2.1, h.2.2⟩)))))))))))))))))))))))))))))))) (fun h => (Or.inr (Or.inr (Or.inr (Or.inr (Or.inr (Or.inr (Or.inr (Or.inr (Or.inr (Or.inr (Or.inr (Or.inr (Or.inr (Or.inr (Or.inr (Or.inr (Or.inr (Or.inr (Or.inr (Or.inr (Or.inr (Or.inr (Or.inr (Or.inr (Or.inr (Or.inr (Or.inr (Or.inr (Or.inr (Or.inr (Or.inr (Or.inl ⟨h.1, h.2.1, h.2.2⟩)))))))))))))))))))))))))))))))))))))))))))))) _ h0) (fun a1 S2 h1 => ?_)
  refine Kf.bd ((zk_A_burn (r1 := (r1)) (fun g r k i h => hW g r k i (Or.inr (Or.inr (Or.inr (Or.inr (Or.inr (Or.inr (Or.inr (Or.inr (Or.inr (Or.inr (Or.inr (Or.inr (Or.inl ⟨h.1, h.2.1, h.2.2⟩))))))))))))))) _ h1) (fun a3 S4 h2 => ?_)
  refine Kf.lt (fun v5 => ?_)
  refine Kf.ite ?_ ?_
  · skip
    exact (zk_A_pass_131 (r1 := r1) hW) _ _ _ _ h2
  · skip
    exact (zk_A_pass_131 (r1 := r1) hW) _ _ _ _ h2
theorem zk_A_pass_25 {W : Nat → Int → Int → Int → Prop} {S0 : Sg} {r1 : Int} (hW : ∀ g r k i, zr_A_pass r1 g r k i → W g r k i) : ∀ (xt0 : Int) (S : Sg), Fm W S0 S → Kf W S0 (zf_A_pass_25 r1 xt0 S) := by
  intro xt0 S h0
  unfold zf_A_pass_25
  refine Kf.bd ((zk_A_sendGuestsOff (r0 := (r1)) (fun g r k i h => hW g r k i (Or.inr (Or.inr (Or.inr (Or.inr (Or.inr (Or.inr (Or.inl ⟨h.1, h.2.1, h.2.2⟩))))))))) _ h0) (fun a1 S2 h1 => ?_)
  refine Kf.bd ((zk_A_letRain (r0 := (r1)) (fun g r k i h => hW g r k i (Or.elim h (fun h => (Or.inr (Or.inr (Or.inr (Or.inr (Or.inl ⟨h.1, h.2.1, h.2.2.1, h.2.2.2⟩)))))) (fun h => (Or.inr (Or.inr (Or.inr (Or.inr (Or.inr (Or.inr (Or.inr (Or.inr (Or.inr (Or.inr (Or.inr (Or.inl ⟨h.1, h.2.1, h.2.2⟩)))))))))))))))) _ h1) (fun a3 S4 h2 => ?_)
  refine Kf.bd ((zk_A_countHeads (r1 := (r1)) (fun g r k i h => hW g r k i (Or.inr (Or.inr (Or.inr (Or.inr (Or.inr (Or.inr (Or.inr (Or.inr (Or.inr (Or.inr (Or.inr (Or.inr (Or.inr (Or.inr (Or.inr (Or.inr (Or.inr (Or.inr (Or.inr (Or.inr (Or.inr (Or.inr (Or.inr (Or.inr (Or.inr (Or.inr (Or.inl ⟨h.1, h.2.1, h.2.2⟩))))))))))))))))))))))))))))) _ h2) (fun a5 S6 h3 => ?_)
  refine Kf.bd ((zk_A_drink (r1 := (r1)) (fun g r k i h => hW g r k i (Or.elim h (fun h => (Or.inr (Or.inr (Or.inr (Or.inr (Or.inr (Or.inr (Or.inr (Or.inr (Or.inr (Or.inr (Or.inr (Or.inl ⟨h.1, h.2.1, h.2.2⟩))))))))))))) (fun h => (Or.inr (Or.inr (Or.inr (Or.inr (Or.inr (Or.inr (Or.inr (Or.inr (Or.inr (Or.inr (Or.inr (Or.inr (Or.inr (Or.inr (Or.inl ⟨h.1, h.2.1, h.2.2⟩))))))))))))))))))) _ h3) (fun a7 S8 h4 => ?_)
  refine Kf.bd ((zk_A_graze (r0 := (r1)) (fun g r k i h => hW g r k i (Or.elim h (fun h => (Or.inr (Or.inr (Or.inr (Or.inr (Or.inl ⟨h.1, h.2.1, h.2.2.1, h.2.2.2⟩)))))) (fun h => (Or.elim h (fun h => (Or.inr (Or.inr (Or.inr (Or.inr (Or.inr (Or.inr (Or.inr (Or.inr (Or.inr (Or.inr (Or.inl ⟨h.1, h.2.1, h.2.2⟩)))))))))))) (fun h => (Or.inr (Or.inr (Or.inr (Or.inr (Or.inr (Or.inr (Or.inr (Or.inr (Or.inr (Or.inr (Or.inr (Or.inr (Or.inl ⟨h.1, h.2.1, h.2.2⟩))))))))))))))))))) _ h4) (fun a9 S10 h5 => ?_)
  refine Kf.bd ((zk_C_fill (r1 := (r1)) (fun g r k i h => hW g r k i (Or.elim h (fun h => (Or.inr (Or.inr (Or.inr (Or.inr (Or.inr (Or.inr (Or.inr (Or.inr (Or.inr (Or.inr (Or.inr (Or.inr (Or.inr (Or.inr (Or.inr (Or.inl ⟨h.1, h.2.1, h.2.2⟩))))))))))))))))) (fun h => (Or.elim h (fun h => (Or.inr (Or.inr (Or.inr (Or.inr (Or.inr (Or.inr (Or.inr (Or.inr (Or.inr (Or.inr (Or.inr (Or.inr (Or.inr (Or.inr (Or.inr (Or.inr (Or.inl ⟨h.1, h.2.1, h.2.2⟩)))))))))))))))))) (fun h => (Or.elim h (fun h => (Or.inr (Or.inr (Or.inr (Or.inr (Or.inr (Or.inr (Or.inr (Or.inr (Or.inr (Or.inr (Or.inr (Or.inr (Or.inr (Or.inr (Or.inr (Or.inr (Or.inr (Or.inl ⟨h.1, h.2.1, h.2.2⟩))))))))))))))))))) (fun h => (Or.elim h (fun h => (Or.inr (Or.inr (Or.inr (Or.inr (Or.inr (Or.inr (Or.inr (Or.inr (Or.inr (Or.inr (Or.inr (Or.inr (Or.inr (Or.inr (Or.inr (Or.inr (Or.inr (Or.inr (Or.inl ⟨h.1, h.2.1, h.2.2.1, h.2.2.2⟩)))))))))))))))))))) (fun h => (Or.elim h (fun h => (Or.inr (Or.inr (Or.inr (Or.inr (Or.inr (Or.inr (Or.inr (Or.inr (Or.inr (Or.inr (Or.inr (Or.inr (Or.inr (Or.inr (Or.inr (Or.inr (Or.inr (Or.inr (Or.inr (Or.inl ⟨h.1, h.2.1, h.2.2⟩))))))))))))))))))))) (fun h => (Or.elim h (fun h => (Or.inr (Or.inr (Or.inr (Or.inr (Or.inr (Or.inr (Or.inr (Or.inr (Or.inr (Or.inr (Or.inr (Or.inr (Or.inr (Or.inr (Or.inr (Or.inr (Or.inr (Or.inr (Or.inr (Or.inr (Or.inl ⟨h.1, h.2.1, h.2.2⟩)))))))))))))))))))))) (fun h => (Or.elim h (fun h => (Or.inr (Or.inr (Or.inr (Or.inr (Or.inr (Or.inr (Or.inr (Or.inr (Or.inr (Or.inr (Or.inr (Or.inr (Or.inr (Or.inr (Or.inr (Or.inr (Or.inr (Or.inr (Or.inr (Or.inr (Or.inr (Or.inl ⟨h.1, h.2.1, h.2.2⟩))))))))))))))))))))))) (fun h => (Or.elim h (fun h => (Or.inr (Or.inr (Or.inr (Or.inr (Or.inr (Or.inr (Or.inr (Or.inr (Or.inr (Or.inr (Or.inr (Or.inr (Or.inr (Or.inr (Or.inr (Or.inr (Or.inr (Or.inr (Or.inr (Or.inr (Or.inr (Or.inr (Or.inl ⟨h.1, h.2.1, h.2.2⟩)))))))))))))))))))))))) (fun h => (Or.elim h (fun h => (Or.inr (Or.inr (Or.inr (Or.inr (Or.inr (Or.inr (Or.inr (Or.inr (Or.inr (Or.inr (Or.inr (Or.inr (Or.inr (Or.inr (Or.inr (Or.inr (Or.inr (Or.inr (Or.inr (Or.inr (Or.inr (Or.inr (Or.inr (Or.inr (Or.inr (Or.inr (Or.inr (Or.inr (Or.inr (Or.inl ⟨h.1, h.2.1, h.2.2.1, h.2.2.2⟩))))))))))))))))))))))))))))))) (fun h => (Or.elim h (fun h => (Or.inr (Or.inr (Or.inr (Or.inr (Or.inr (Or.inr (Or.inr (Or.inr (Or.inr (Or.inr (Or.inr (Or.inr (Or.inr (Or.inr (Or.inr (Or.inr (Or.inr (Or.inr (Or.inr (Or.inr (Or.inr (Or.inr (Or.inr (Or.inr (Or.inr (Or.inr (Or.inr (Or.inr (Or.inr (Or.inr (Or.inl ⟨h.1, h.2.1, h.2.2⟩)))))))))))))))))))))))))))))))) (fun h => (Or.elim h (fun h => (Or.inr (Or.inr (Or.inr (Or.inr (Or.inr (Or.inr (Or.inr (Or.inr (Or.inr (Or.inr (Or.inr (Or.inr (Or.inr (Or.inr (Or.inr (Or.inr (Or.inr (Or.inr (Or.inr (Or.inr (Or.inr (Or.inr (Or.inr (Or.inr (Or.inr (Or.inr (Or.inr (Or.inr (Or.inr (Or.inr (Or.inr (Or.inl ⟨h.1, h.2.1, h.2.2⟩))))))))))))))))))))))))))))))))) (fun h => (Or.inr (Or.inr (Or.inr (Or.inr (Or.inr (Or.inr (Or.inr (Or.inr (Or.inr (Or.inr (Or.inr (Or.inr (Or.inr (Or.inr (Or.inr (Or.inr (Or.inr (Or.inr (Or.inr (Or.inr (Or.inr (Or.inr (Or.inr (Or.inr (Or.inr (Or.inr (Or.inr (Or.inr (Or.inr (Or.inr (Or.inr (Or.inr ⟨h.1, h.2⟩)))))))))))))))))))))))))))))))))))))))))))))))))))))))) _ h5) (fun a11 S12 h6 => ?_)
  refine Kf.put h6 (hW _ _ _ _ (Or.inr (Or.inr (Or.inr (Or.inr (Or.inr (Or.inr (Or.inr (Or.inr (Or.inr (Or.inr (Or.inr (Or.inr (Or.inr (Or.inr (Or.inr (Or.inr (Or.inr (Or.inr (Or.inr (Or.inr (Or.inr (Or.inr (Or.inr (Or.inl ⟨rfl, rfl, rfl, rfl⟩))))))))))))))))))))))))) (fun S13 h7 => ?_)
  refine Kf.bd ((zk_A_work (r1 := (r1)) (fun g r k i h => hW g r k i (Or.elim h (fun h => (Or.inr (Or.inr (Or.inr (Or.inr (Or.inr (Or.inr (Or.inr (Or.inr (Or.inl ⟨h.1, h.2.1, h.2.2⟩)))))))))) (fun h => (Or.inr (Or.inr (Or.inr (Or.inr (Or.inr (Or.inr (Or.inr (Or.inr (Or.inr (Or.inr (Or.inr (Or.inr (Or.inl ⟨h.1, h.2.1, h.2.2⟩))))))))))))))))) _ _ h7) (fun a14 S15 h8 => ?_)
  refine Kf.bd ((zk_A_lands (r0 := (r1)) (fun _ _ _ _ h => h.elim)) _ _ h8) (fun a16 S17 h9 => ?_)
  refine Kf.ite ?_ ?_
  · skip
    exact (zk_A_pass_101 (r1 := r1) hW) _ _ h9
  · skip
    refine Kf.put h9 (hW _ _ _ _ (Or.inr (Or.inr (Or.inr (Or.inr (Or.inr (Or.inl ⟨rfl, rfl, rfl, rfl⟩))))))) (fun S19 h10 => ?_)
    refine Kf.bd ((zk_T_load (r0 := (r1)) (fun g r k i h => hW g r k i (Or.elim h (fun h => (Or.inr (Or.inr (Or.inr (Or.inr (Or.inr (Or.inr (Or.inr (Or.inr (Or.inr (Or.inr (Or.inr (Or.inr (Or.inl ⟨h.1, h.2.1, h.2.2⟩)))))))))))))) (fun h => (Or.inr (Or.inr (Or.inr (Or.inr (Or.inr (Or.inr (Or.inr (Or.inr (Or.inr (Or.inr (Or.inr (Or.inr (Or.inr (Or.inl ⟨h.1, h.2.1, h.2.2⟩)))))))))))))))))) _ _ h10) (fun a20 S21 h11 => ?_)
    exact (zk_A_pass_101 (r1 := r1) hW) _ _ h11
theorem zk_A_pass {W : Nat → Int → Int → Int → Prop} {S0 : Sg} {r1 : Int} (hW : ∀ g r k i, zr_A_pass r1 g r k i → W g r k i) : ∀ (S : Sg), Fm W S0 S → Kf W S0 (zf_A_pass r1 S) := by
  intro S h0
  unfold zf_A_pass
  refine Kf.bd ((zk_Y_at (r0 := (r1)) (k0 := (0)) (fun _ _ _ _ h => h.elim)) _ _ h0) (fun a1 S2 h1 => ?_)
  refine Kf.ite ?_ ?_
  · skip
    exact (zk_A_pass_25 (r1 := r1) hW) _ _ h1
  · skip
    exact (zk_A_pass_25 (r1 := r1) hW) _ _ h1
def zr_O_weeks (g : Nat) (r k i : Int) : Prop := (g = 0 ∧ r = 0 ∧ k = 0 ∧ i = 0) ∨ (g = 0 ∧ r = 0 ∧ k = 0 ∧ i = 1) ∨ (g = 0 ∧ r = 0 ∧ k = 0 ∧ i = 2) ∨ (g = 0 ∧ r = 0 ∧ k = 0 ∧ i = 3) ∨ (g = 0 ∧ r = 0 ∧ k = 0 ∧ i = 4) ∨ (g = 0 ∧ r = 0 ∧ k = 0 ∧ i = 6) ∨ (g = 0 ∧ r = 0 ∧ k = 11) ∨ (g = 0 ∧ r = 0 ∧ k = 13) ∨ (g = 0 ∧ r = 0 ∧ k = 14) ∨ (g = 0 ∧ r = 0 ∧ k = 15) ∨ (g = 0 ∧ r = 0 ∧ k = 2) ∨ (g = 0 ∧ r = 0 ∧ k = 3) ∨ (g = 0 ∧ r = 0 ∧ k = 32) ∨ (g = 0 ∧ r = 0 ∧ k = 36) ∨ (g = 0 ∧ r = 0 ∧ k = 5) ∨ (g = 20 ∧ r = 0 ∧ k = 0) ∨ (g = 20 ∧ r = 0 ∧ k = 1) ∨ (g = 20 ∧ r = 0 ∧ k = 2) ∨ (g = 3 ∧ r = 0 ∧ k = 1) ∨ (g = 3 ∧ r = 0 ∧ k = 10 ∧ i = 5) ∨ (g = 3 ∧ r = 0 ∧ k = 11) ∨ (g = 3 ∧ r = 0 ∧ k = 12) ∨ (g = 3 ∧ r = 0 ∧ k = 13) ∨ (g = 3 ∧ r = 0 ∧ k = 14) ∨ (g = 3 ∧ r = 0 ∧ k = 15 ∧ i = 7) ∨ (g = 3 ∧ r = 0 ∧ k = 16) ∨ (g = 3 ∧ r = 0 ∧ k = 17) ∨ (g = 3 ∧ r = 0 ∧ k = 18) ∨ (g = 3 ∧ r = 0 ∧ k = 19) ∨ (g = 3 ∧ r = 0 ∧ k = 20) ∨ (g = 3 ∧ r = 0 ∧ k = 7 ∧ i = 2) ∨ (g = 3 ∧ r = 0 ∧ k = 8) ∨ (g = 3 ∧ r = 0 ∧ k = 9) ∨ (g = 4 ∧ k = 0)
theorem zk_O_weeks_33 {W : Nat → Int → Int → Int → Prop} {S0 : Sg} (hW : ∀ g r k i, zr_O_weeks g r k i → W g r k i) : ∀ (n : Nat) (x1 x2 : Int) (S : Sg), Fm W S0 S → Kf W S0 (zf_O_weeks_33 n x1 x2 S) := by
  intro n
  induction n with
  | zero => intro x1 x2 S h0; exact Kf.none
  | succ n ih =>
    intro x1 x2 S h0
    rw [zf_O_weeks_33]
    refine Kf.ite ?_ ?_
    · skip
      refine Kf.bd ((zk_P_in (r0 := (0)) (fun _ _ _ _ h => h.elim)) _ _ h0) (fun a2 S3 h1 => ?_)
      exact Kf.some h1
    · skip
      refine Kf.bd ((zk_A_pass (r1 := (0)) (fun g r k i h => hW g r k i (Or.elim h (fun h => (Or.inl ⟨h.1, h.2.1, h.2.2.1, h.2.2.2⟩)) (fun h => (Or.elim h (fun h => (Or.inr (Or.inl ⟨h.1, h.2.1, h.2.2.1, h.2.2.2⟩))) (fun h => (Or.elim h (fun h => (Or.inr (Or.inr (Or.inl ⟨h.1, h.2.1, h.2.2.1, h.2.2.2⟩)))) (fun h => (Or.elim h (fun h => (Or.inr (Or.inr (Or.inr (Or.inl ⟨h.1, h.2.1, h.2.2.1, h.2.2.2⟩))))) (fun h => (Or.elim h (fun h => (Or.inr (Or.inr (Or.inr (Or.inr (Or.inl ⟨h.1, h.2.1, h.2.2.1, h.2.2.2⟩)))))) (fun h => (Or.elim h (fun h => (Or.inr (Or.inr (Or.inr (Or.inr (Or.inr (Or.inl ⟨h.1, h.2.1, h.2.2.1, h.2.2.2⟩))))))) (fun h => (Or.elim h (fun h => (Or.inr (Or.inr (Or.inr (Or.inr (Or.inr (Or.inr (Or.inl ⟨h.1, h.2.1, h.2.2⟩)))))))) (fun h => (Or.elim h (fun h => (Or.inr (Or.inr (Or.inr (Or.inr (Or.inr (Or.inr (Or.inr (Or.inl ⟨h.1, h.2.1, h.2.2⟩))))))))) (fun h => (Or.elim h (fun h => (Or.inr (Or.inr (Or.inr (Or.inr (Or.inr (Or.inr (Or.inr (Or.inr (Or.inl ⟨h.1, h.2.1, h.2.2⟩)))))))))) (fun h => (Or.elim h (fun h => (Or.inr (Or.inr (Or.inr (Or.inr (Or.inr (Or.inr (Or.inr (Or.inr (Or.inr (Or.inl ⟨h.1, h.2.1, h.2.2⟩))))))))))) (fun h => (Or.elim h (fun h => (Or.inr (Or.inr (Or.inr (Or.inr (Or.inr (Or.inr (Or.inr (Or.inr (Or.inr (Or.inr (Or.inl ⟨h.1, h.2.1, h.2.2⟩)))))))))))) (fun h => (Or.elim h (fun h => (Or.inr (Or.inr (Or.inr (Or.inr (Or.inr (Or.inr (Or.inr (Or.inr (Or.inr (Or.inr (Or.inr (Or.inl ⟨h.1, h.2.1, h.2.2⟩))))))))))))) (fun h => (Or.elim h (fun h => (Or.inr (Or.inr (Or.inr (Or.inr (Or.inr (Or.inr (Or.inr (Or.inr (Or.inr (Or.inr (Or.inr (Or.inr (Or.inl ⟨h.1, h.2.1, h.2.2⟩)))))))))))))) (fun h => (Or.elim h (fun h => (Or.inr (Or.inr (Or.inr (Or.inr (Or.inr (Or.inr (Or.inr (Or.inr (Or.inr (Or.inr (Or.inr (Or.inr (Or.inr (Or.inl ⟨h.1, h.2.1, h.2.2⟩))))))))))))))) (fun h => (Or.elim h (fun h => (Or.inr (Or.inr (Or.inr (Or.inr (Or.inr (Or.inr (Or.inr (Or.inr (Or.inr (Or.inr (Or.inr (Or.inr (Or.inr (Or.inr (Or.inl ⟨h.1, h.2.1, h.2.2⟩)))))))))))))))) (fun h => (Or.elim h (fun h => (Or.inr (Or.inr (Or.inr (Or.inr (Or.inr (Or.inr (Or.inr (Or.inr (Or.inr (Or.inr (Or.inr (Or.inr (Or.inr (Or.inr (Or.inr (Or.inl ⟨h.1, h.2.1, h.2.2⟩))))))))))))))))) (fun h => (Or.elim h (fun h => (Or.inr (Or.inr (Or.inr (Or.inr (Or.inr (Or.inr (Or.inr (Or.inr (Or.inr (Or.inr (Or.inr (Or.inr (Or.inr (Or.inr (Or.inr (Or.inr (Or.inl ⟨h.1, h.2.1, h.2.2⟩)))))))))))))))))) (fun h => (Or.elim h (fun h => (Or.inr (Or.inr (Or.inr (Or.inr (Or.inr (Or.inr (Or.inr (Or.inr (Or.inr (Or.inr (Or.inr (Or.inr (Or.inr (Or.inr (Or.inr (Or.inr (Or.inr (Or.inl ⟨h.1, h.2.1, h.2.2⟩))))))))))))))))))) (fun h => (Or.elim h (fun h => (Or.inr (Or.inr (Or.inr (Or.inr (Or.inr (Or.inr (Or.inr (Or.inr (Or.inr (Or.inr (Or.inr (Or.inr (Or.inr (Or.inr (Or.inr (Or.inr (Or.inr (Or.inr (Or.inr (Or.inl ⟨h.1, h.2.1, h.2.2.1, h.2.2.2⟩))))))))))))))))))))) (fun h => (Or.elim h (fun h => (Or.inr (Or.inr (Or.inr (Or.inr (Or.inr (Or.inr (Or.inr (Or.inr (Or.inr (Or.inr (Or.inr (Or.inr (Or.inr (Or.inr (Or.inr (Or.inr (Or.inr (Or.inr (Or.inr (Or.inr (Or.inl ⟨h.1, h.2.1, h.2.2⟩)))))))))))))))))))))) (fun h => (Or.elim h (fun h => (Or.inr (Or.inr (Or.inr (Or.inr (Or.inr (Or.inr (Or.inr (Or.inr (Or.inr (Or.inr (Or.inr (Or.inr (Or.inr (Or.inr (Or.inr (Or.inr (Or.inr (Or.inr (Or.inr (Or.inr (Or.inr (Or.inl ⟨h.1, h.2.1, h.2.2⟩))))))))))))))))))))))) (fun h => (Or.elim h (fun h => (Or.inr (Or.inr (Or.inr (Or.inr (Or.inr (Or.inr (Or.inr (Or.inr (Or.inr (Or.inr (Or.inr (Or.inr (Or.inr (Or.inr (Or.inr (Or.inr (Or.inr (Or.inr (Or.inr (Or.inr (Or.inr (Or.inr (Or.inl ⟨h.1, h.2.1, h.2.2⟩)))))))))))))))))))))))) (fun h => (Or.elim h (fun h => (Or.inr (Or.inr (Or.inr (Or.inr (Or.inr (Or.inr (Or.inr (Or.inr (Or.inr (Or.inr (Or.inr (Or.inr (Or.inr (Or.inr (Or.inr (Or.inr (Or.inr (Or.inr (Or.inr (Or.inr (Or.inr (Or.inr (Or.inr (Or.inl ⟨h.1, h.2.1, h.2.2⟩))))))))))))))))))))))))) (fun h => (Or.elim h (fun h => (Or.inr (Or.inr (Or.inr (Or.inr (Or.inr (Or.inr (Or.inr (Or.inr (Or.inr (Or.inr (Or.inr (Or.inr (Or.inr (Or.inr (Or.inr (Or.inr (Or.inr (Or.inr (Or.inr (Or.inr (Or.inr (Or.inr (Or.inr (Or.inr (Or.inl ⟨h.1, h.2.1, h.2.2.1, h.2.2.2⟩)))))))))))))))))))))))))) (fun h => (Or.elim h (fun h => (Or.inr (Or.inr (Or.inr (Or.inr (Or.inr (Or.inr (Or.inr (Or.inr (Or.inr (Or.inr (Or.inr (Or.inr (Or.inr (Or.inr (Or.inr (Or.inr (Or.inr (Or.inr (Or.inr (Or.inr (Or.inr (Or.inr (Or.inr (Or.inr (Or.inr (Or.inl ⟨h.1, h.2.1, h.2.2⟩))))))))))))))))))))))))))) (fun h => (Or.elim h (fun h => (Or.inr (Or.inr (Or.inr (Or.inr (Or.inr (Or.inr (Or.inr (Or.inr (Or.inr (Or.inr (Or.inr (Or.inr (Or.inr (Or.inr (Or.inr (Or.inr (Or.inr (Or.inr (Or.inr (Or.inr (Or.inr (Or.inr (Or.inr (Or.inr (Or.inr (Or.inr (Or.inl ⟨h.1, h.2.1, h.2.2⟩)))))))))))))))))))))))))))) (fun h => (Or.elim h (fun h => (Or.inr (Or.inr (Or.inr (Or.inr (Or.inr (Or.inr (Or.inr (Or.inr (Or.inr (Or.inr (Or.inr (Or.inr (Or.inr (Or.inr (Or.inr (Or.inr (Or.inr (Or.inr (Or.inr (Or.inr (Or.inr (Or.inr (Or.inr (Or.inr (Or.inr (Or.inr (Or.inr (Or.inl ⟨h.1, h.2.1, h.2.2⟩))))))))))))))))))))))))))))) (fun h => (Or.elim h (fun h => (Or.inr (Or.inr (Or.inr (Or.inr (Or.inr (Or.inr (Or.inr (Or.inr (Or.inr (Or.inr (Or.inr (Or.inr (Or.inr (Or.inr (Or.inr (Or.inr (Or.inr (Or.inr (Or.inr (Or.inr (Or.inr (Or.inr (Or.inr (Or.inr (Or.inr (Or.inr (Or.inr (Or.inr (Or.inl ⟨h.1, h.2.1, h.2.2⟩)))))))))))))))))))))))))))))) (fun h => (Or.elim h (fun h => (Or.inr (Or.inr (Or.inr (Or.inr (Or.inr (Or.inr (Or.inr (Or.inr (Or.inr (Or.inr (Or.inr (Or.inr (Or.inr (Or.inr (Or.inr (Or.inr (Or.inr (Or.inr (Or.inr (Or.inr (Or.inr (Or.inr (Or.inr (Or.inr (Or.inr (Or.inr (Or.inr (Or.inr (Or.inr (Or.inl ⟨h.1, h.2.1, h.2.2⟩))))))))))))))))))))))))))))))) (fun h => (Or.elim h (fun h => (Or.inr (Or.inr (Or.inr (Or.inr (Or.inr (Or.inr (Or.inr (Or.inr (Or.inr (Or.inr (Or.inr (Or.inr (Or.inr (Or.inr (Or.inr (Or.inr (Or.inr (Or.inr (Or.inr (Or.inr (Or.inr (Or.inr (Or.inr (Or.inr (Or.inr (Or.inr (Or.inr (Or.inr (Or.inr (Or.inr (Or.inl ⟨h.1, h.2.1, h.2.2.1, h.2.2.2⟩)))))))))))))))))))))))))))))))) (fun h => (Or.elim h (fun h => (Or.inr (Or.inr (Or.inr (Or.inr (Or.inr (Or.inr (Or.inr (Or.inr (Or.inr (Or.inr (Or.inr (Or.inr (Or.inr (Or.inr (Or.inr (Or.inr (Or.inr (Or.inr (Or.inr (Or.inr (Or.inr (Or.inr (Or.inr (Or.inr (Or.inr (Or.inr (Or.inr (Or.inr (Or.inr (Or.inr (Or.inr (Or.inl ⟨h.1, h.2.1, h.2.2⟩))))))))))))))))))))))))))))))))) (fun h => (Or.elim h (fun h => (Or.inr (Or.inr (Or.inr (Or.inr (Or.inr (Or.inr (Or.inr (Or.inr (Or.inr (Or.inr (Or.inr (Or.inr (Or.inr (Or.inr (Or.inr (Or.inr (Or.inr (Or.inr (Or.inr (Or.inr (Or.inr (Or.inr (Or.inr (Or.inr (Or.inr (Or.inr (Or.inr (Or.inr (Or.inr (Or.inr (Or.inr (Or.inr (Or.inl ⟨h.1, h.2.1, h.2.2⟩)))))))))))))))))))))))))))))))))) (fun h => (Or.inr (Or.inr (Or.inr (Or.inr (Or.inr (Or.inr (Or.inr (Or.inr (Or.inr (Or.inr (Or.inr (Or.inr (Or.inr (Or.inr (Or.inr (Or.inr (Or.inr (Or.inr (Or.inr (Or.inr (Or.inr (Or.inr (Or.inr (Or.inr (Or.inr (Or.inr (Or.inr (Or.inr (Or.inr (Or.inr (Or.inr (Or.inr (Or.inr ⟨h.1, h.2⟩))))))))))))))))))))))))))))))))))))))))))))))))))))))))))))))))))))))))))))))))))))))))))))))))))) _ h0) (fun a4 S5 h2 => ?_)
      refine Kf.bd ((zk_O_noteRecord (fun g r k i h => hW g r k i (Or.inr (Or.inr (Or.inr (Or.inr (Or.inr (Or.inr (Or.inr (Or.inr (Or.inr (Or.inr (Or.inr (Or.inr (Or.inr (Or.inr (Or.inr (Or.inr (Or.inr (Or.inr (Or.inl ⟨h.1, h.2.1, h.2.2⟩))))))))))))))))))))) _ _ h2) (fun a6 S7 h3 => ?_)
      refine Kf.lt (fun v8 => ?_)
      exact ih _ _ _ h3
theorem zk_O_weeks {W : Nat → Int → Int → Int → Prop} {S0 : Sg} (hW : ∀ g r k i, zr_O_weeks g r k i → W g r k i) : ∀ (x1 : Int) (S : Sg), Fm W S0 S → Kf W S0 (zf_O_weeks x1 S) := by
  intro x1 S h0
  unfold zf_O_weeks
  refine Kf.ite ?_ ?_
  · skip
    exact Kf.some h0
  · skip
    refine Kf.ite ?_ ?_
    · skip
      refine Kf.ite ?_ ?_
      · skip
        exact (zk_O_weeks_33 hW) 4096 _ _ _ h0
      · skip
        exact Kf.some h0
    · skip
      exact Kf.some h0
def zr_O_record (g : Nat) (r k i : Int) : Prop := False
theorem zk_O_record {W : Nat → Int → Int → Int → Prop} {S0 : Sg} (hW : ∀ g r k i, zr_O_record g r k i → W g r k i) : ∀ (x1 : Int) (x2 : Int) (S : Sg), Fm W S0 S → Kf W S0 (zf_O_record x1 x2 S) := by
  intro x1 x2 S h0
  unfold zf_O_record
  refine Kf.bd ((zk_O_isWeek (fun _ _ _ _ h => h.elim)) _ _ h0) (fun a1 S2 h1 => ?_)
  refine Kf.ite ?_ ?_
  · skip
    exact Kf.some h1
  · skip
    refine Kf.ite ?_ ?_
    · skip
      exact Kf.some h1
    · skip
      refine Kf.ite ?_ ?_
      · skip
        refine Kf.ite ?_ ?_
        · skip
          exact Kf.some h1
        · skip
          refine Kf.ite ?_ ?_
          · skip
            refine Kf.ck ?_
            exact Kf.some h1
          · skip
            exact Kf.some h1
      · skip
        exact Kf.some h1
def zr_O_headsInMind (g : Nat) (r k i : Int) : Prop := (g = 0 ∧ r = 2 ∧ k = 0 ∧ i = 0) ∨ (g = 0 ∧ r = 2 ∧ k = 0 ∧ i = 1) ∨ (g = 0 ∧ r = 2 ∧ k = 0 ∧ i = 2) ∨ (g = 0 ∧ r = 2 ∧ k = 0 ∧ i = 3) ∨ (g = 0 ∧ r = 2 ∧ k = 0 ∧ i = 4) ∨ (g = 0 ∧ r = 2 ∧ k = 0 ∧ i = 6) ∨ (g = 0 ∧ r = 2 ∧ k = 11) ∨ (g = 0 ∧ r = 2 ∧ k = 13) ∨ (g = 0 ∧ r = 2 ∧ k = 14) ∨ (g = 0 ∧ r = 2 ∧ k = 15) ∨ (g = 0 ∧ r = 2 ∧ k = 2) ∨ (g = 0 ∧ r = 2 ∧ k = 3) ∨ (g = 0 ∧ r = 2 ∧ k = 32) ∨ (g = 0 ∧ r = 2 ∧ k = 36) ∨ (g = 0 ∧ r = 2 ∧ k = 5) ∨ (g = 20 ∧ r = 0 ∧ k = 0) ∨ (g = 20 ∧ r = 0 ∧ k = 1) ∨ (g = 20 ∧ r = 0 ∧ k = 2) ∨ (g = 3 ∧ r = 0 ∧ k = 10 ∧ i = 5) ∨ (g = 3 ∧ r = 0 ∧ k = 11) ∨ (g = 3 ∧ r = 0 ∧ k = 12) ∨ (g = 3 ∧ r = 0 ∧ k = 13) ∨ (g = 3 ∧ r = 0 ∧ k = 14) ∨ (g = 3 ∧ r = 0 ∧ k = 15 ∧ i = 7) ∨ (g = 3 ∧ r = 0 ∧ k = 16) ∨ (g = 3 ∧ r = 0 ∧ k = 17) ∨ (g = 3 ∧ r = 0 ∧ k = 18) ∨ (g = 3 ∧ r = 0 ∧ k = 19) ∨ (g = 3 ∧ r = 0 ∧ k = 20) ∨ (g = 3 ∧ r = 0 ∧ k = 7 ∧ i = 2) ∨ (g = 3 ∧ r = 0 ∧ k = 8) ∨ (g = 3 ∧ r = 0 ∧ k = 9) ∨ (g = 4 ∧ k = 0)
theorem zk_O_headsInMind_2 {W : Nat → Int → Int → Int → Prop} {S0 : Sg} (hW : ∀ g r k i, zr_O_headsInMind g r k i → W g r k i) : ∀ (n : Nat) (x1 x2 : Int) (S : Sg), Fm W S0 S → Kf W S0 (zf_O_headsInMind_2 n x1 x2 S) := by
  intro n
  induction n with
  | zero => intro x1 x2 S h0; exact Kf.none
  | succ n ih =>
    intro x1 x2 S h0
    rw [zf_O_headsInMind_2]
    refine Kf.ite ?_ ?_
    · skip
      refine Kf.bd ((zk_P_in (r0 := (2)) (fun _ _ _ _ h => h.elim)) _ _ h0) (fun a2 S3 h1 => ?_)
      exact Kf.some h1
    · skip
      refine Kf.bd ((zk_A_pass (r1 := (2)) (fun g r k i h => hW g r k i (Or.elim h (fun h => (Or.inl ⟨h.1, h.2.1, h.2.2.1, h.2.2.2⟩)) (fun h => (Or.elim h (fun h => (Or.inr (Or.inl ⟨h.1, h.2.1, h.2.2.1, h.2.2.2⟩))) (fun h => (Or.elim h (fun h => (Or.inr (Or.inr (Or.inl ⟨h.1, h.2.1, h.2.2.1, h.2.2.2⟩)))) (fun h => (Or.elim h (fun h => (Or.inr (Or.inr (Or.inr (Or.inl ⟨h.1, h.2.1, h.2.2.1, h.2.2.2⟩))))) (fun h => (Or.elim h (fun h => (Or.inr (Or.inr (Or.inr (Or.inr (Or.inl ⟨h.1, h.2.1, h.2.2.1, h.2.2.2⟩)))))) (fun h => (Or.elim h (fun h => (Or.inr (Or.inr (Or.inr (Or.inr (Or.inr (Or.inl ⟨h.1, h.2.1, h.2.2.1, h.2.2.2⟩))))))) (fun h => (Or.elim h (fun h => (Or.inr (Or.inr (Or.inr (Or.inr (Or.inr (Or.inr (Or.inl ⟨h.1, h.2.1, h.2.2⟩)))))))) (fun h => (Or.elim h (fun h => (Or.inr (Or.inr (Or.inr (Or.inr (Or.inr (Or.inr (Or.inr (Or.inl ⟨h.1, h.2.1, h.2.2⟩))))))))) (fun h => (Or.elim h (fun h => (Or.inr (Or.inr (Or.inr (Or.inr (Or.inr (Or.inr (Or.inr (Or.inr (Or.inl ⟨h.1, h.2.1, h.2.2⟩)))))))))) (fun h => (Or.elim h (fun h => (Or.inr (Or.inr (Or.inr (Or.inr (Or.inr (Or.inr (Or.inr (Or.inr (Or.inr (Or.inl ⟨h.1, h.2.1, h.2.2⟩))))))))))) (fun h => (Or.elim h (fun h => (Or.inr (Or.inr (Or.inr (Or.inr (Or.inr (Or.inr (Or.inr (Or.inr (Or.inr (Or.inr (Or.inl ⟨h.1, h.2.1, h.2.2⟩)))))))))))) (fun h => (Or.elim h (fun h => (Or.inr (Or.inr (Or.inr (Or.inr (Or.inr (Or.inr (Or.inr (Or.inr (Or.inr (Or.inr (Or.inr (Or.inl ⟨h.1, h.2.1, h.2.2⟩))))))))))))) (fun h => (Or.elim h (fun h => (Or.inr (Or.inr (Or.inr (Or.inr (Or.inr (Or.inr (Or.inr (Or.inr (Or.inr (Or.inr (Or.inr (Or.inr (Or.inl ⟨h.1, h.2.1, h.2.2⟩)))))))))))))) (fun h => (Or.elim h (fun h => (Or.inr (Or.inr (Or.inr (Or.inr (Or.inr (Or.inr (Or.inr (Or.inr (Or.inr (Or.inr (Or.inr (Or.inr (Or.inr (Or.inl ⟨h.1, h.2.1, h.2.2⟩))))))))))))))) (fun h => (Or.elim h (fun h => (Or.inr (Or.inr (Or.inr (Or.inr (Or.inr (Or.inr (Or.inr (Or.inr (Or.inr (Or.inr (Or.inr (Or.inr (Or.inr (Or.inr (Or.inl ⟨h.1, h.2.1, h.2.2⟩)))))))))))))))) (fun h => (Or.elim h (fun h => (Or.inr (Or.inr (Or.inr (Or.inr (Or.inr (Or.inr (Or.inr (Or.inr (Or.inr (Or.inr (Or.inr (Or.inr (Or.inr (Or.inr (Or.inr (Or.inl ⟨h.1, h.2.1, h.2.2⟩))))))))))))))))) (fun h => (Or.elim h (fun h => (Or.inr (Or.inr (Or.inr (Or.inr (Or.inr (Or.inr (Or.inr (Or.inr (Or.inr (Or.inr (Or.inr (Or.inr (Or.inr (Or.inr (Or.inr (Or.inr (Or.inl ⟨h.1, h.2.1, h.2.2⟩)))))))))))))))))) (fun h => (Or.elim h (fun h => (Or.inr (Or.inr (Or.inr (Or.inr (Or.inr (Or.inr (Or.inr (Or.inr (Or.inr (Or.inr (Or.inr (Or.inr (Or.inr (Or.inr (Or.inr (Or.inr (Or.inr (Or.inl ⟨h.1, h.2.1, h.2.2⟩))))))))))))))))))) (fun h => (Or.elim h (fun h => (Or.inr (Or.inr (Or.inr (Or.inr (Or.inr (Or.inr (Or.inr (Or.inr (Or.inr (Or.inr (Or.inr (Or.inr (Or.inr (Or.inr (Or.inr (Or.inr (Or.inr (Or.inr (Or.inl ⟨h.1, h.2.1, h.2.2.1, h.2.2.2⟩)))))))))))))))))))) (fun h => (Or.elim h (fun h => (Or.inr (Or.inr (Or.inr (Or.inr (Or.inr (Or.inr (Or.inr (Or.inr (Or.inr (Or.inr (Or.inr (Or.inr (Or.inr (Or.inr (Or.inr (Or.inr (Or.inr (Or.inr (Or.inr (Or.inl ⟨h.1, h.2.1, h.2.2⟩))))))))))))))))))))) (fun h => (Or.elim h (fun h => (Or.inr (Or.inr (Or.inr (Or.inr (Or.inr (Or.inr (Or.inr (Or.inr (Or.inr (Or.inr (Or.inr (Or.inr (Or.inr (Or.inr (Or.inr (Or.inr (Or.inr (Or.inr (Or.inr (Or.inr (Or.inl ⟨h.1, h.2.1, h.2.2⟩)))))))))))))))))))))) (fun h => (Or.elim h (fun h => (Or.inr (Or.inr (Or.inr (Or.inr (Or.inr (Or.inr (Or.inr (Or.inr (Or.inr (Or.inr (Or.inr (Or.inr (Or.inr (Or.inr (Or.inr (Or.inr (Or.inr (Or.inr (Or.inr (Or.inr (Or.inr (Or.inl ⟨h.1, h.2.1, h.2.2⟩))))))))))))))))))))))) (fun h => (Or.elim h (fun h => (Or.inr (Or.inr (Or.inr (Or.inr (Or.inr (Or.inr (Or.inr (Or.inr (Or.inr (Or.inr (Or.inr (Or.inr (Or.inr (Or.inr (Or.inr (Or.inr (Or.inr (Or.inr (Or.inr (Or.inr (Or.inr (Or.inr (Or.inl ⟨h.1, h.2.1, h.2.2⟩)))))))))))))))))))))))) (fun h => (Or.elim h (fun h => (Or.inr (Or.inr (Or.inr (Or.inr (Or.inr (Or.inr (Or.inr (Or.inr (Or.inr (Or.inr (Or.inr (Or.inr (Or.inr (Or.inr (Or.inr (Or.inr (Or.inr (Or.inr (Or.inr (Or.inr (Or.inr (Or.inr (Or.inr (Or.inl ⟨h.1, h.2.1, h.2.2.1, h.2.2.2⟩))))))))))))))))))))))))) (fun h => (Or.elim h (fun h => (Or.inr (Or.inr (Or.inr (Or.inr (Or.inr (Or.inr (Or.inr (Or.inr (Or.inr (Or.inr (Or.inr (Or.inr (Or.inr (Or.inr (Or.inr (Or.inr (Or.inr (Or.inr (Or.inr (Or.inr (Or.inr (Or.inr (Or.inr (Or.inr (Or.inl ⟨h.1, h.2.1, h.2.2⟩)))))))))))))))))))))))))) (fun h => (Or.elim h (fun h => (Or.inr (Or.inr (Or.inr (Or.inr (Or.inr (Or.inr (Or.inr (Or.inr (Or.inr (Or.inr (Or.inr (Or.inr (Or.inr (Or.inr (Or.inr (Or.inr (Or.inr (Or.inr (Or.inr (Or.inr (Or.inr (Or.inr (Or.inr (Or.inr (Or.inr (Or.inl ⟨h.1, h.2.1, h.2.2⟩))))))))))))))))))))))))))) (fun h => (Or.elim h (fun h => (Or.inr (Or.inr (Or.inr (Or.inr (Or.inr (Or.inr (Or.inr (Or.inr (Or.inr (Or.inr (Or.inr (Or.inr (Or.inr (Or.inr (Or.inr (Or.inr (Or.inr (Or.inr (Or.inr (Or.inr (Or.inr (Or.inr (Or.inr (Or.inr (Or.inr (Or.inr (Or.inl ⟨h.1, h.2.1, h.2.2⟩)))))))))))))))))))))))))))) (fun h => (Or.elim h (fun h => (Or.inr (Or.inr (Or.inr (Or.inr (Or.inr (Or.inr (Or.inr (Or.inr (Or.inr (Or.inr (Or.inr (Or.inr (Or.inr (Or.inr (Or.inr (Or.inr (Or.inr (Or.inr (Or.inr (Or.inr (Or.inr (Or.inr (Or.inr (Or.inr (Or.inr (Or.inr (Or.inr (Or.inl ⟨h.1, h.2.1, h.2.2⟩))))))))))))))))))))))))))))) (fun h => (Or.elim h (fun h => (Or.inr (Or.inr (Or.inr (Or.inr (Or.inr (Or.inr (Or.inr (Or.inr (Or.inr (Or.inr (Or.inr (Or.inr (Or.inr (Or.inr (Or.inr (Or.inr (Or.inr (Or.inr (Or.inr (Or.inr (Or.inr (Or.inr (Or.inr (Or.inr (Or.inr (Or.inr (Or.inr (Or.inr (Or.inl ⟨h.1, h.2.1, h.2.2⟩)))))))))))))))))))))))))))))) (fun h => (Or.elim h (fun h => (Or.inr (Or.inr (Or.inr (Or.inr (Or.inr (Or.inr (Or.inr (Or.inr (Or.inr (Or.inr (Or.inr (Or.inr (Or.inr (Or.inr (Or.inr (Or.inr (Or.inr (Or.inr (Or.inr (Or.inr (Or.inr (Or.inr (Or.inr (Or.inr (Or.inr (Or.inr (Or.inr (Or.inr (Or.inr (Or.inl ⟨h.1, h.2.1, h.2.2.1, h.2.2.2⟩))))))))))))))))))))))))))))))) (fun h => (Or.elim h (fun h => (Or.inr (Or.inr (Or.inr (Or.inr (Or.inr (Or.inr (Or.inr (Or.inr (Or.inr (Or.inr (Or.inr (Or.inr (Or.inr (Or.inr (Or.inr (Or.inr (Or.inr (Or.inr (Or.inr (Or.inr (Or.inr (Or.inr (Or.inr (Or.inr (Or.inr (Or.inr (Or.inr (Or.inr (Or.inr (Or.inr (Or.inl ⟨h.1, h.2.1, h.2.2⟩)))))))))))))))))))))))))))))))) (fun h => (Or.elim h (fun h => (Or.inr (Or.inr (Or.inr (Or.inr (Or.inr (Or.inr (Or.inr (Or.inr (Or.inr (Or.inr (Or.inr (Or.inr (Or.inr (Or.inr (Or.inr (Or.inr (Or.inr (Or.inr (Or.inr (Or.inr (Or.inr (Or.inr (Or.inr (Or.inr (Or.inr (Or.inr (Or.inr (Or.inr (Or.inr (Or.inr (Or.inr (Or.inl ⟨h.1, h.2.1, h.2.2⟩))))))))))))))))))))))))))))))))) (fun h => (Or.inr (Or.inr (Or.inr (Or.inr (Or.inr (Or.inr (Or.inr (Or.inr (Or.inr (Or.inr (Or.inr (Or.inr (Or.inr (Or.inr (Or.inr (Or.inr (Or.inr (Or.inr (Or.inr (Or.inr (Or.inr (Or.inr (Or.inr (Or.inr (Or.inr (Or.inr (Or.inr (Or.inr (Or.inr (Or.inr (Or.inr (Or.inr ⟨h.1, h.2⟩)))))))))))))))))))))))))))))))))))))))))))))))))))))))))))))))))))))))))))))))))))))))))))))))))) _ h0) (fun a4 S5 h2 => ?_)
      refine Kf.lt (fun v6 => ?_)
      exact ih _ _ _ h2
theorem zk_O_headsInMind {W : Nat → Int → Int → Int → Prop} {S0 : Sg} (hW : ∀ g r k i, zr_O_headsInMind g r k i → W g r k i) : ∀ (x1 : Int) (S : Sg), Fm W S0 S → Kf W S0 (zf_O_headsInMind x1 S) := by
  intro x1 S h0
  unfold zf_O_headsInMind
  exact (zk_O_headsInMind_2 hW) 4096 _ _ _ h0
def zr_L_become (r0 : Int) (r1 : Int) (g : Nat) (r k i : Int) : Prop := (g = 0 ∧ r = r0 ∧ k = 16 ∧ i = 0) ∨ (g = 0 ∧ r = r0 ∧ k = 17) ∨ (g = 0 ∧ r = r0 ∧ k = 18) ∨ (g = 0 ∧ r = r0 ∧ k = 19) ∨ (g = 0 ∧ r = r0 ∧ k = 20) ∨ (g = 0 ∧ r = r0 ∧ k = 21) ∨ (g = 0 ∧ r = r0 ∧ k = 22) ∨ (g = 0 ∧ r = r0 ∧ k = 23) ∨ (g = 0 ∧ r = r0 ∧ k = 24) ∨ (g = 0 ∧ r = r0 ∧ k = 25)
theorem zk_L_become {W : Nat → Int → Int → Int → Prop} {S0 : Sg} {r0 : Int} {r1 : Int} (hW : ∀ g r k i, zr_L_become r0 r1 g r k i → W g r k i) : ∀ (S : Sg), Fm W S0 S → Kf W S0 (zf_L_become r0 r1 S) := by
  intro S h0
  unfold zf_L_become
  refine Kf.put h0 (hW _ _ _ _ (Or.inl ⟨rfl, rfl, rfl, rfl⟩)) (fun S1 h1 => ?_)
  refine Kf.cp h1 (fun j => hW _ _ _ j (Or.inr (Or.inl ⟨rfl, rfl, rfl⟩))) (fun S2 h2 => ?_)
  refine Kf.cp h2 (fun j => hW _ _ _ j (Or.inr (Or.inr (Or.inl ⟨rfl, rfl, rfl⟩)))) (fun S3 h3 => ?_)
  refine Kf.cp h3 (fun j => hW _ _ _ j (Or.inr (Or.inr (Or.inr (Or.inl ⟨rfl, rfl, rfl⟩))))) (fun S4 h4 => ?_)
  refine Kf.cp h4 (fun j => hW _ _ _ j (Or.inr (Or.inr (Or.inr (Or.inr (Or.inl ⟨rfl, rfl, rfl⟩)))))) (fun S5 h5 => ?_)
  refine Kf.cp h5 (fun j => hW _ _ _ j (Or.inr (Or.inr (Or.inr (Or.inr (Or.inr (Or.inl ⟨rfl, rfl, rfl⟩))))))) (fun S6 h6 => ?_)
  refine Kf.cp h6 (fun j => hW _ _ _ j (Or.inr (Or.inr (Or.inr (Or.inr (Or.inr (Or.inr (Or.inl ⟨rfl, rfl, rfl⟩)))))))) (fun S7 h7 => ?_)
  refine Kf.cp h7 (fun j => hW _ _ _ j (Or.inr (Or.inr (Or.inr (Or.inr (Or.inr (Or.inr (Or.inr (Or.inl ⟨rfl, rfl, rfl⟩))))))))) (fun S8 h8 => ?_)
  refine Kf.cp h8 (fun j => hW _ _ _ j (Or.inr (Or.inr (Or.inr (Or.inr (Or.inr (Or.inr (Or.inr (Or.inr (Or.inl ⟨rfl, rfl, rfl⟩)))))))))) (fun S9 h9 => ?_)
  refine Kf.cp h9 (fun j => hW _ _ _ j (Or.inr (Or.inr (Or.inr (Or.inr (Or.inr (Or.inr (Or.inr (Or.inr (Or.inr ⟨rfl, rfl, rfl⟩)))))))))) (fun S10 h10 => ?_)
  exact Kf.some h10
def zr_P_become (r0 : Int) (r1 : Int) (g : Nat) (r k i : Int) : Prop := (g = 0 ∧ r = r0 ∧ k = 10) ∨ (g = 0 ∧ r = r0 ∧ k = 11) ∨ (g = 0 ∧ r = r0 ∧ k = 12) ∨ (g = 0 ∧ r = r0 ∧ k = 13) ∨ (g = 0 ∧ r = r0 ∧ k = 14) ∨ (g = 0 ∧ r = r0 ∧ k = 15) ∨ (g = 0 ∧ r = r0 ∧ k = 6 ∧ i = 0) ∨ (g = 0 ∧ r = r0 ∧ k = 7) ∨ (g = 0 ∧ r = r0 ∧ k = 8) ∨ (g = 0 ∧ r = r0 ∧ k = 9)
theorem zk_P_become {W : Nat → Int → Int → Int → Prop} {S0 : Sg} {r0 : Int} {r1 : Int} (hW : ∀ g r k i, zr_P_become r0 r1 g r k i → W g r k i) : ∀ (S : Sg), Fm W S0 S → Kf W S0 (zf_P_become r0 r1 S) := by
  intro S h0
  unfold zf_P_become
  refine Kf.put h0 (hW _ _ _ _ (Or.inr (Or.inr (Or.inr (Or.inr (Or.inr (Or.inr (Or.inl ⟨rfl, rfl, rfl, rfl⟩)))))))) (fun S1 h1 => ?_)
  refine Kf.cp h1 (fun j => hW _ _ _ j (Or.inr (Or.inr (Or.inr (Or.inr (Or.inr (Or.inr (Or.inr (Or.inl ⟨rfl, rfl, rfl⟩))))))))) (fun S2 h2 => ?_)
  refine Kf.cp h2 (fun j => hW _ _ _ j (Or.inr (Or.inr (Or.inr (Or.inr (Or.inr (Or.inr (Or.inr (Or.inr (Or.inl ⟨rfl, rfl, rfl⟩)))))))))) (fun S3 h3 => ?_)
  refine Kf.cp h3 (fun j => hW _ _ _ j (Or.inr (Or.inr (Or.inr (Or.inr (Or.inr (Or.inr (Or.inr (Or.inr (Or.inr ⟨rfl, rfl, rfl⟩)))))))))) (fun S4 h4 => ?_)
  refine Kf.cp h4 (fun j => hW _ _ _ j (Or.inl ⟨rfl, rfl, rfl⟩)) (fun S5 h5 => ?_)
  refine Kf.cp h5 (fun j => hW _ _ _ j (Or.inr (Or.inl ⟨rfl, rfl, rfl⟩))) (fun S6 h6 => ?_)
  refine Kf.cp h6 (fun j => hW _ _ _ j (Or.inr (Or.inr (Or.inl ⟨rfl, rfl, rfl⟩)))) (fun S7 h7 => ?_)
  refine Kf.cp h7 (fun j => hW _ _ _ j (Or.inr (Or.inr (Or.inr (Or.inl ⟨rfl, rfl, rfl⟩))))) (fun S8 h8 => ?_)
  refine Kf.cp h8 (fun j => hW _ _ _ j (Or.inr (Or.inr (Or.inr (Or.inr (Or.inl ⟨rfl, rfl, rfl⟩)))))) (fun S9 h9 => ?_)
  refine Kf.cp h9 (fun j => hW _ _ _ j (Or.inr (Or.inr (Or.inr (Or.inr (Or.inr (Or.inl ⟨rfl, rfl, rfl⟩))))))) (fun S10 h10 => ?_)
  exact Kf.some h10
def zr_Q_become (r0 : Int) (r1 : Int) (g : Nat) (r k i : Int) : Prop := (g = 0 ∧ r = r0 ∧ k = 26 ∧ i = 0) ∨ (g = 0 ∧ r = r0 ∧ k = 27) ∨ (g = 0 ∧ r = r0 ∧ k = 28) ∨ (g = 0 ∧ r = r0 ∧ k = 29) ∨ (g = 0 ∧ r = r0 ∧ k = 30)
theorem zk_Q_become {W : Nat → Int → Int → Int → Prop} {S0 : Sg} {r0 : Int} {r1 : Int} (hW : ∀ g r k i, zr_Q_become r0 r1 g r k i → W g r k i) : ∀ (S : Sg), Fm W S0 S → Kf W S0 (zf_Q_become r0 r1 S) := by
  intro S h0
  unfold zf_Q_become
  refine Kf.put h0 (hW _ _ _ _ (Or.inl ⟨rfl, rfl, rfl, rfl⟩)) (fun S1 h1 => ?_)
  refine Kf.cp h1 (fun j => hW _ _ _ j (Or.inr (Or.inl ⟨rfl, rfl, rfl⟩))) (fun S2 h2 => ?_)
  refine Kf.cp h2 (fun j => hW _ _ _ j (Or.inr (Or.inr (Or.inl ⟨rfl, rfl, rfl⟩)))) (fun S3 h3 => ?_)
  refine Kf.cp h3 (fun j => hW _ _ _ j (Or.inr (Or.inr (Or.inr (Or.inl ⟨rfl, rfl, rfl⟩))))) (fun S4 h4 => ?_)
  refine Kf.cp h4 (fun j => hW _ _ _ j (Or.inr (Or.inr (Or.inr (Or.inr ⟨rfl, rfl, rfl⟩))))) (fun S5 h5 => ?_)
  exact Kf.some h5
def zr_Y_become (k0 : Int) (r0 : Int) (k1 : Int) (r1 : Int) (g : Nat) (r k i : Int) : Prop := (g = 13 ∧ r = r0 ∧ k = k0) ∨ (g = 14 ∧ r = r0 ∧ k = k0)
theorem zk_Y_become {W : Nat → Int → Int → Int → Prop} {S0 : Sg} {k0 : Int} {r0 : Int} {k1 : Int} {r1 : Int} (hW : ∀ g r k i, zr_Y_become k0 r0 k1 r1 g r k i → W g r k i) : ∀ (S : Sg), Fm W S0 S → Kf W S0 (zf_Y_become r0 k0 r1 k1 S) := by
  intro S h0
  unfold zf_Y_become
  refine Kf.bd ((zk_Y_take (r0 := (r0)) (k0 := (k0)) (g3 := 14) (r3 := (r1)) (k3 := (k1)) (n3 := 120) (fun g r k i h => hW g r k i (Or.elim h (fun h => (Or.inl ⟨h.1, h.2.1, h.2.2⟩)) (fun h => (Or.inr ⟨h.1, h.2.1, h.2.2⟩))))) _ _ _ h0) (fun a1 S2 h1 => ?_)
  exact Kf.some h1
def zr_T_become (r0 : Int) (r1 : Int) (g : Nat) (r k i : Int) : Prop := (g = 0 ∧ r = r0 ∧ k = 31 ∧ i = 3) ∨ (g = 0 ∧ r = r0 ∧ k = 32) ∨ (g = 0 ∧ r = r0 ∧ k = 33) ∨ (g = 0 ∧ r = r0 ∧ k = 34) ∨ (g = 0 ∧ r = r0 ∧ k = 35) ∨ (g = 0 ∧ r = r0 ∧ k = 36)
theorem zk_T_become {W : Nat → Int → Int → Int → Prop} {S0 : Sg} {r0 : Int} {r1 : Int} (hW : ∀ g r k i, zr_T_become r0 r1 g r k i → W g r k i) : ∀ (S : Sg), Fm W S0 S → Kf W S0 (zf_T_become r0 r1 S) := by
  intro S h0
  unfold zf_T_become
  refine Kf.cp h0 (fun j => hW _ _ _ j (Or.inr (Or.inl ⟨rfl, rfl, rfl⟩))) (fun S1 h1 => ?_)
  refine Kf.cp h1 (fun j => hW _ _ _ j (Or.inr (Or.inr (Or.inl ⟨rfl, rfl, rfl⟩)))) (fun S2 h2 => ?_)
  refine Kf.cp h2 (fun j => hW _ _ _ j (Or.inr (Or.inr (Or.inr (Or.inl ⟨rfl, rfl, rfl⟩))))) (fun S3 h3 => ?_)
  refine Kf.put h3 (hW _ _ _ _ (Or.inl ⟨rfl, rfl, rfl, rfl⟩)) (fun S4 h4 => ?_)
  refine Kf.cp h4 (fun j => hW _ _ _ j (Or.inr (Or.inr (Or.inr (Or.inr (Or.inl ⟨rfl, rfl, rfl⟩)))))) (fun S5 h5 => ?_)
  refine Kf.cp h5 (fun j => hW _ _ _ j (Or.inr (Or.inr (Or.inr (Or.inr (Or.inr ⟨rfl, rfl, rfl⟩)))))) (fun S6 h6 => ?_)
  exact Kf.some h6
def zr_I_become (r0 : Int) (r1 : Int) (g : Nat) (r k i : Int) : Prop := (g = 0 ∧ r = r0 ∧ k = 0 ∧ i = 0) ∨ (g = 0 ∧ r = r0 ∧ k = 0 ∧ i = 1) ∨ (g = 0 ∧ r = r0 ∧ k = 0 ∧ i = 2) ∨ (g = 0 ∧ r = r0 ∧ k = 0 ∧ i = 3) ∨ (g = 0 ∧ r = r0 ∧ k = 0 ∧ i = 4) ∨ (g = 0 ∧ r = r0 ∧ k = 0 ∧ i = 5) ∨ (g = 0 ∧ r = r0 ∧ k = 0 ∧ i = 6) ∨ (g = 0 ∧ r = r0 ∧ k = 1) ∨ (g = 0 ∧ r = r0 ∧ k = 10) ∨ (g = 0 ∧ r = r0 ∧ k = 11) ∨ (g = 0 ∧ r = r0 ∧ k = 12) ∨ (g = 0 ∧ r = r0 ∧ k = 13) ∨ (g = 0 ∧ r = r0 ∧ k = 14) ∨ (g = 0 ∧ r = r0 ∧ k = 15) ∨ (g = 0 ∧ r = r0 ∧ k = 16 ∧ i = 0) ∨ (g = 0 ∧ r = r0 ∧ k = 17) ∨ (g = 0 ∧ r = r0 ∧ k = 18) ∨ (g = 0 ∧ r = r0 ∧ k = 19) ∨ (g = 0 ∧ r = r0 ∧ k = 2) ∨ (g = 0 ∧ r = r0 ∧ k = 20) ∨ (g = 0 ∧ r = r0 ∧ k = 21) ∨ (g = 0 ∧ r = r0 ∧ k = 22) ∨ (g = 0 ∧ r = r0 ∧ k = 23) ∨ (g = 0 ∧ r = r0 ∧ k = 24) ∨ (g = 0 ∧ r = r0 ∧ k = 25) ∨ (g = 0 ∧ r = r0 ∧ k = 26 ∧ i = 0) ∨ (g = 0 ∧ r = r0 ∧ k = 27) ∨ (g = 0 ∧ r = r0 ∧ k = 28) ∨ (g = 0 ∧ r = r0 ∧ k = 29) ∨ (g = 0 ∧ r = r0 ∧ k = 3) ∨ (g = 0 ∧ r = r0 ∧ k = 30) ∨ (g = 0 ∧ r = r0 ∧ k = 31 ∧ i = 3) ∨ (g = 0 ∧ r = r0 ∧ k = 32) ∨ (g = 0 ∧ r = r0 ∧ k = 33) ∨ (g = 0 ∧ r = r0 ∧ k = 34) ∨ (g = 0 ∧ r = r0 ∧ k = 35) ∨ (g = 0 ∧ r = r0 ∧ k = 36) ∨ (g = 0 ∧ r = r0 ∧ k = 4) ∨ (g = 0 ∧ r = r0 ∧ k = 5) ∨ (g = 0 ∧ r = r0 ∧ k = 6 ∧ i = 0) ∨ (g = 0 ∧ r = r0 ∧ k = 7) ∨ (g = 0 ∧ r = r0 ∧ k = 8) ∨ (g = 0 ∧ r = r0 ∧ k = 9) ∨ (g = 13 ∧ r = r0 ∧ k = 0) ∨ (g = 13 ∧ r = r0 ∧ k = 1) ∨ (g = 14 ∧ r = r0 ∧ k = 0) ∨ (g = 14 ∧ r = r0 ∧ k = 1)
theorem zk_I_become {W : Nat → Int → Int → Int → Prop} {S0 : Sg} {r0 : Int} {r1 : Int} (hW : ∀ g r k i, zr_I_become r0 r1 g r k i → W g r k i) : ∀ (S : Sg), Fm W S0 S → Kf W S0 (zf_I_become r0 r1 S) := by
  intro S h0
  unfold zf_I_become
  refine Kf.put h0 (hW _ _ _ _ (Or.inl ⟨rfl, rfl, rfl, rfl⟩)) (fun S1 h1 => ?_)
  refine Kf.put h1 (hW _ _ _ _ (Or.inr (Or.inl ⟨rfl, rfl, rfl, rfl⟩))) (fun S2 h2 => ?_)
  refine Kf.put h2 (hW _ _ _ _ (Or.inr (Or.inr (Or.inl ⟨rfl, rfl, rfl, rfl⟩)))) (fun S3 h3 => ?_)
  refine Kf.put h3 (hW _ _ _ _ (Or.inr (Or.inr (Or.inr (Or.inl ⟨rfl, rfl, rfl, rfl⟩))))) (fun S4 h4 => ?_)
  refine Kf.put h4 (hW _ _ _ _ (Or.inr (Or.inr (Or.inr (Or.inr (Or.inl ⟨rfl, rfl, rfl, rfl⟩)))))) (fun S5 h5 => ?_)
  refine Kf.put h5 (hW _ _ _ _ (Or.inr (Or.inr (Or.inr (Or.inr (Or.inr (Or.inl ⟨rfl, rfl, rfl, rfl⟩))))))) (fun S6 h6 => ?_)
  refine Kf.put h6 (hW _ _ _ _ (Or.inr (Or.inr (Or.inr (Or.inr (Or.inr (Or.inr (Or.inl ⟨rfl, rfl, rfl, rfl⟩)))))))) (fun S7 h7 => ?_)
  refine Kf.cp h7 (fun j => hW _ _ _ j (Or.inr (Or.inr (Or.inr (Or.inr (Or.inr (Or.inr (Or.inr (Or.inl ⟨rfl, rfl, rfl⟩))))))))) (fun S8 h8 => ?_)
  refine Kf.cp h8 (fun j => hW _ _ _ j (Or.inr (Or.inr (Or.inr (Or.inr (Or.inr (Or.inr (Or.inr (Or.inr (Or.inr (Or.inr (Or.inr (Or.inr (Or.inr (Or.inr (Or.inr (Or.inr (Or.inr (Or.inr (Or.inl ⟨rfl, rfl, rfl⟩)))))))))))))))))))) (fun S9 h9 => ?_)
  refine Kf.cp h9 (fun j => hW _ _ _ j (Or.inr (Or.inr (Or.inr (Or.inr (Or.inr (Or.inr (Or.inr (Or.inr (Or.inr (Or.inr (Or.inr (Or.inr (Or.inr (Or.inr (Or.inr (Or.inr (Or.inr (Or.inr (Or.inr (Or.inr (Or.inr (Or.inr (Or.inr (Or.inr (Or.inr (Or.inr (Or.inr (Or.inr (Or.inr (Or.inl ⟨rfl, rfl, rfl⟩))))))))))))))))))))))))))))))) (fun S10 h10 => ?_)
  refine Kf.cp h10 (fun j => hW _ _ _ j (Or.inr (Or.inr (Or.inr (Or.inr (Or.inr (Or.inr (Or.inr (Or.inr (Or.inr (Or.inr (Or.inr (Or.inr (Or.inr (Or.inr (Or.inr (Or.inr (Or.inr (Or.inr (Or.inr (Or.inr (Or.inr (Or.inr (Or.inr (Or.inr (Or.inr (Or.inr (Or.inr (Or.inr (Or.inr (Or.inr (Or.inr (Or.inr (Or.inr (Or.inr (Or.inr (Or.inr (Or.inr (Or.inl ⟨rfl, rfl, rfl⟩))))))))))))))))))))))))))))))))))))))) (fun S11 h11 => ?_)
  refine Kf.cp h11 (fun j => hW _ _ _ j (Or.inr (Or.inr (Or.inr (Or.inr (Or.inr (Or.inr (Or.inr (Or.inr (Or.inr (Or.inr (Or.inr (Or.inr (Or.inr (Or.inr (Or.inr (Or.inr (Or.inr (Or.inr (Or.inr (Or.inr (Or.inr (Or.inr (Or.inr (Or.inr (Or.inr (Or.inr (Or.inr (Or.inr (Or.inr (Or.inr (Or.inr (Or.inr (Or.inr (Or.inr (Or.inr (Or.inr (Or.inr (Or.inr (Or.inl ⟨rfl, rfl, rfl⟩)))))))))))))))))))))))))))))))))))))))) (fun S12 h12 => ?_)
  refine Kf.bd ((zk_P_become (r0 := (r0)) (r1 := (r1)) (fun g r k i h => hW g r k i (Or.elim h (fun h => (Or.inr (Or.inr (Or.inr (Or.inr (Or.inr (Or.inr (Or.inr (Or.inr (Or.inl ⟨h.1, h.2.1, h.2.2⟩)))))))))) (fun h => (Or.elim h (fun h => (Or.inr (Or.inr (Or.inr (Or.inr (Or.inr (Or.inr (Or.inr (Or.inr (Or.inr (Or.inl ⟨h.1, h.2.1, h.2.2⟩))))))))))) (fun h => (Or.elim h (fun h => (Or.inr (Or.inr (Or.inr (Or.inr (Or.inr (Or.inr (Or.inr (Or.inr (Or.inr (Or.inr (Or.inl ⟨h.1, h.2.1, h.2.2⟩)))))))))))) (fun h => (Or.elim h (fun h => (Or.inr (Or.inr (Or.inr (Or.inr (Or.inr (Or.inr (Or.inr (Or.inr (Or.inr (Or.inr (Or.inr (Or.inl ⟨h.1, h.2.1, h.2.2⟩))))))))))))) (fun h => (Or.elim h (fun h => (Or.inr (Or.inr (Or.inr (Or.inr (Or.inr (Or.inr (Or.inr (Or.inr (Or.inr (Or.inr (Or.inr (Or.inr (Or.inl ⟨h.1, h.2.1, h.2.2⟩)))))))))))))) (fun h => (Or.elim h (fun h => (Or.inr (Or.inr (Or.inr (Or.inr (Or.inr (Or.inr (Or.inr (Or.inr (Or.inr (Or.inr (Or.inr (Or.inr (Or.inr (Or.inl ⟨h.1, h.2.1, h.2.2⟩))))))))))))))) (fun h => (Or.elim h (fun h => (Or.inr (Or.inr (Or.inr (Or.inr (Or.inr (Or.inr (Or.inr (Or.inr (Or.inr (Or.inr (Or.inr (Or.inr (Or.inr (Or.inr (Or.inr (Or.inr (Or.inr (Or.inr (Or.inr (Or.inr (Or.inr (Or.inr (Or.inr (Or.inr (Or.inr (Or.inr (Or.inr (Or.inr (Or.inr (Or.inr (Or.inr (Or.inr (Or.inr (Or.inr (Or.inr (Or.inr (Or.inr (Or.inr (Or.inr (Or.inl ⟨h.1, h.2.1, h.2.2.1, h.2.2.2⟩))))))))))))))))))))))))))))))))))))))))) (fun h => (Or.elim h (fun h => (Or.inr (Or.inr (Or.inr (Or.inr (Or.inr (Or.inr (Or.inr (Or.inr (Or.inr (Or.inr (Or.inr (Or.inr (Or.inr (Or.inr (Or.inr (Or.inr (Or.inr (Or.inr (Or.inr (Or.inr (Or.inr (Or.inr (Or.inr (Or.inr (Or.inr (Or.inr (Or.inr (Or.inr (Or.inr (Or.inr (Or.inr (Or.inr (Or.inr (Or.inr (Or.inr (Or.inr (Or.inr (Or.inr (Or.inr (Or.inr (Or.inl ⟨h.1, h.2.1, h.2.2⟩)))))))))))))))))))))))))))))))))))))))))) (fun h => (Or.elim h (fun h => (Or.inr (Or.inr (Or.inr (Or.inr (Or.inr (Or.inr (Or.inr (Or.inr (Or.inr (Or.inr (Or.inr (Or.inr (Or.inr (Or.inr (Or.inr (Or.inr (Or.inr (Or.inr (Or.inr (Or.inr (Or.inr (Or.inr (Or.inr (Or.inr (Or.inr (Or.inr (Or.inr (Or.inr (Or.inr (Or.inr (Or.inr (Or.inr (Or.inr (Or.inr (Or.inr (Or.inr (Or.inr (Or.inr (Or.inr (Or.inr (Or.inr (Or.inl ⟨h.1, h.2.1, h.2.2⟩))))))))))))))))))))))))))))))))))))))))))) (fun h => (Or.inr (Or.inr (Or.inr (Or.inr (Or.inr (Or.inr (Or.inr (Or.inr (Or.inr (Or.inr (Or.inr (Or.inr (Or.inr (Or.inr (Or.inr (Or.inr (Or.inr (Or.inr (Or.inr (Or.inr (Or.inr (Or.inr (Or.inr (Or.inr (Or.inr (Or.inr (Or.inr (Or.inr (Or.inr (Or.inr (Or.inr (Or.inr (Or.inr (Or.inr (Or.inr (Or.inr (Or.inr (Or.inr (Or.inr (Or.inr (Or.inr (Or.inr (Or.inl ⟨h.1, h.2.1, h.2.2⟩))))))))))))))))))))))))))))))))))))))))))))))))))))))))))))))) _ h12) (fun a13 S14 h13 => ?_)
  refine Kf.bd ((zk_L_become (r0 := (r0)) (r1 := (r1)) (fun g r k i h => hW g r k i (Or.elim h (fun h => (Or.inr (Or.inr (Or.inr (Or.inr (Or.inr (Or.inr (Or.inr (Or.inr (Or.inr (Or.inr (Or.inr (Or.inr (Or.inr (Or.inr (Or.inl ⟨h.1, h.2.1, h.2.2.1, h.2.2.2⟩)))))))))))))))) (fun h => (Or.elim h (fun h => (Or.inr (Or.inr (Or.inr (Or.inr (Or.inr (Or.inr (Or.inr (Or.inr (Or.inr (Or.inr (Or.inr (Or.inr (Or.inr (Or.inr (Or.inr (Or.inl ⟨h.1, h.2.1, h.2.2⟩))))))))))))))))) (fun h => (Or.elim h (fun h => (Or.inr (Or.inr (Or.inr (Or.inr (Or.inr (Or.inr (Or.inr (Or.inr (Or.inr (Or.inr (Or.inr (Or.inr (Or.inr (Or.inr (Or.inr (Or.inr (Or.inl ⟨h.1, h.2.1, h.2.2⟩)))))))))))))))))) (fun h => (Or.elim h (fun h => (Or.inr (Or.inr (Or.inr (Or.inr (Or.inr (Or.inr (Or.inr (Or.inr (Or.inr (Or.inr (Or.inr (Or.inr (Or.inr (Or.inr (Or.inr (Or.inr (Or.inr (Or.inl ⟨h.1, h.2.1, h.2.2⟩))))))))))))))))))) (fun h => (Or.elim h (fun h => (Or.inr (Or.inr (Or.inr (Or.inr (Or.inr (Or.inr (Or.inr (Or.inr (Or.inr (Or.inr (Or.inr (Or.inr (Or.inr (Or.inr (Or.inr (Or.inr (Or.inr (Or.inr (Or.inr (Or.inl ⟨h.1, h.2.1, h.2.2⟩))))))))))))))))))))) (fun h => (Or.elim h (fun h => (Or.inr (Or.inr (Or.inr (Or.inr (Or.inr (Or.inr (Or.inr (Or.inr (Or.inr (Or.inr (Or.inr (Or.inr (Or.inr (Or.inr (Or.inr (Or.inr (Or.inr (Or.inr (Or.inr (Or.inr (Or.inl ⟨h.1, h.2.1, h.2.2⟩)))))))))))))))))))))) (fun h => (Or.elim h (fun h => (Or.inr (Or.inr (Or.inr (Or.inr (Or.inr (Or.inr (Or.inr (Or.inr (Or.inr (Or.inr (Or.inr (Or.inr (Or.inr (Or.inr (Or.inr (Or.inr (Or.inr (Or.inr (Or.inr (Or.inr (Or.inr (Or.inl ⟨h.1, h.2.1, h.2.2⟩))))))))))))))))))))))) (fun h => (Or.elim h (fun h => (Or.inr (Or.inr (Or.inr (Or.inr (Or.inr (Or.inr (Or.inr (Or.inr (Or.inr (Or.inr (Or.inr (Or.inr (Or.inr (Or.inr (Or.inr (Or.inr (Or.inr (Or.inr (Or.inr (Or.inr (Or.inr (Or.inr (Or.inl ⟨h.1, h.2.1, h.2.2⟩)))))))))))))))))))))))) (fun h => (Or.elim h (fun h => (Or.inr (Or.inr (Or.inr (Or.inr (Or.inr (Or.inr (Or.inr (Or.inr (Or.inr (Or.inr (Or.inr (Or.inr (Or.inr (Or.inr (Or.inr (Or.inr (Or.inr (Or.inr (Or.inr (Or.inr (Or.inr (Or.inr (Or.inr (Or.inl ⟨h.1, h.2.1, h.2.2⟩))))))))))))))))))))))))) (fun h => (Or.inr (Or.inr (Or.inr (Or.inr (Or.inr (Or.inr (Or.inr (Or.inr (Or.inr (Or.inr (Or.inr (Or.inr (Or.inr (Or.inr (Or.inr (Or.inr (Or.inr (Or.inr (Or.inr (Or.inr (Or.inr (Or.inr (Or.inr (Or.inr (Or.inl ⟨h.1, h.2.1, h.2.2⟩))))))))))))))))))))))))))))))))))))))))))))) _ h13) (fun a15 S16 h14 => ?_)
  refine Kf.bd ((zk_Q_become (r0 := (r0)) (r1 := (r1)) (fun g r k i h => hW g r k i (Or.elim h (fun h => (Or.inr (Or.inr (Or.inr (Or.inr (Or.inr (Or.inr (Or.inr (Or.inr (Or.inr (Or.inr (Or.inr (Or.inr (Or.inr (Or.inr (Or.inr (Or.inr (Or.inr (Or.inr (Or.inr (Or.inr (Or.inr (Or.inr (Or.inr (Or.inr (Or.inr (Or.inl ⟨h.1, h.2.1, h.2.2.1, h.2.2.2⟩))))))))))))))))))))))))))) (fun h => (Or.elim h (fun h => (Or.inr (Or.inr (Or.inr (Or.inr (Or.inr (Or.inr (Or.inr (Or.inr (Or.inr (Or.inr (Or.inr (Or.inr (Or.inr (Or.inr (Or.inr (Or.inr (Or.inr (Or.inr (Or.inr (Or.inr (Or.inr (Or.inr (Or.inr (Or.inr (Or.inr (Or.inr (Or.inl ⟨h.1, h.2.1, h.2.2⟩)))))))))))))))))))))))))))) (fun h => (Or.elim h (fun h => (Or.inr (Or.inr (Or.inr (Or.inr (Or.inr (Or.inr (Or.inr (Or.inr (Or.inr (Or.inr (Or.inr (Or.inr (Or.inr (Or.inr (Or.inr (Or.inr (Or.inr (Or.inr (Or.inr (Or.inr (Or.inr (Or.inr (Or.inr (Or.inr (Or.inr (Or.inr (Or.inr (Or.inl ⟨h.1, h.2.1, h.2.2⟩))))))))))))))))))))))))))))) (fun h => (Or.elim h (fun h => (Or.inr (Or.inr (Or.inr (Or.inr (Or.inr (Or.inr (Or.inr (Or.inr (Or.inr (Or.inr (Or.inr (Or.inr (Or.inr (Or.inr (Or.inr (Or.inr (Or.inr (Or.inr (Or.inr (Or.inr (Or.inr (Or.inr (Or.inr (Or.inr (Or.inr (Or.inr (Or.inr (Or.inr (Or.inl ⟨h.1, h.2.1, h.2.2⟩)))))))))))))))))))))))))))))) (fun h => (Or.inr (Or.inr (Or.inr (Or.inr (Or.inr (Or.inr (Or.inr (Or.inr (Or.inr (Or.inr (Or.inr (Or.inr (Or.inr (Or.inr (Or.inr (Or.inr (Or.inr (Or.inr (Or.inr (Or.inr (Or.inr (Or.inr (Or.inr (Or.inr (Or.inr (Or.inr (Or.inr (Or.inr (Or.inr (Or.inr (Or.inl ⟨h.1, h.2.1, h.2.2⟩))))))))))))))))))))))))))))))))))))))))) _ h14) (fun a17 S18 h15 => ?_)
  refine Kf.bd ((zk_T_become (r0 := (r0)) (r1 := (r1)) (fun g r k i h => hW g r k i (Or.elim h (fun h => (Or.inr (Or.inr (Or.inr (Or.inr (Or.inr (Or.inr (Or.inr (Or.inr (Or.inr (Or.inr (Or.inr (Or.inr (Or.inr (Or.inr (Or.inr (Or.inr (Or.inr (Or.inr (Or.inr (Or.inr (Or.inr (Or.inr (Or.inr (Or.inr (Or.inr (Or.inr (Or.inr (Or.inr (Or.inr (Or.inr (Or.inr (Or.inl ⟨h.1, h.2.1, h.2.2.1, h.2.2.2⟩))))))))))))))))))))))))))))))))) (fun h => (Or.elim h (fun h => (Or.inr (Or.inr (Or.inr (Or.inr (Or.inr (Or.inr (Or.inr (Or.inr (Or.inr (Or.inr (Or.inr (Or.inr (Or.inr (Or.inr (Or.inr (Or.inr (Or.inr (Or.inr (Or.inr (Or.inr (Or.inr (Or.inr (Or.inr (Or.inr (Or.inr (Or.inr (Or.inr (Or.inr (Or.inr (Or.inr (Or.inr (Or.inr (Or.inl ⟨h.1, h.2.1, h.2.2⟩)))))))))))))))))))))))))))))))))) (fun h => (Or.elim h (fun h => (Or.inr (Or.inr (Or.inr (Or.inr (Or.inr (Or.inr (Or.inr (Or.inr (Or.inr (Or.inr (Or.inr (Or.inr (Or.inr (Or.inr (Or.inr (Or.inr (Or.inr (Or.inr (Or.inr (Or.inr (Or.inr (Or.inr (Or.inr (Or.inr (Or.inr (Or.inr (Or.inr (Or.inr (Or.inr (Or.inr (Or.inr (Or.inr (Or.inr (Or.inl ⟨h.1, h.2.1, h.2.2⟩))))))))))))))))))))))))))))))))))) (fun h => (Or.elim h (fun h => (Or.inr (Or.inr (Or.inr (Or.inr (Or.inr (Or.inr (Or.inr (Or.inr (Or.inr (Or.inr (Or.inr (Or.inr (Or.inr (Or.inr (Or.inr (Or.inr (Or.inr (Or.inr (Or.inr (Or.inr (Or.inr (Or.inr (Or.inr (Or.inr (Or.inr (Or.inr (Or.inr (Or.inr (Or.inr (Or.inr (Or.inr (Or.inr (Or.inr (Or.inr (Or.inl ⟨h.1, h.2.1, h.2.2⟩)))))))))))))))))))))))))))))))))))) (fun h => (Or.elim h (fun h => (Or.inr (Or.inr (Or.inr (Or.inr (Or.inr (Or.inr (Or.inr (Or.inr (Or.inr (Or.inr (Or.inr (Or.inr (Or.inr (Or.inr (Or.inr (Or.inr (Or.inr (Or.inr (Or.inr (Or.inr (Or.inr (Or.inr (Or.inr (Or.inr (Or.inr (Or.inr (Or.inr (Or.inr (Or.inr (Or.inr (Or.inr (Or.inr (Or.inr (Or.inr (Or.inr (Or.inl ⟨h.1, h.2.1, h.2.2⟩))))))))))))))))))))))))))))))))))))) (fun h => (Or.inr (Or.inr (Or.inr (Or.inr (Or.inr (Or.inr (Or.inr (Or.inr (Or.inr (Or.inr (Or.inr (Or.inr (Or.inr (Or.inr (Or.inr (Or.inr (Or.inr (Or.inr (Or.inr (Or.inr (Or.inr (Or.inr (Or.inr (Or.inr (Or.inr (Or.inr (Or.inr (Or.inr (Or.inr (Or.inr (Or.inr (Or.inr (Or.inr (Or.inr (Or.inr (Or.inr (Or.inl ⟨h.1, h.2.1, h.2.2⟩))))))))))))))))))))))))))))))))))))))))))))))))) _ h15) (fun a19 S20 h16 => ?_)
  refine Kf.bd ((zk_Y_become (r0 := (r0)) (k0 := (0)) (r1 := (r1)) (k1 := (0)) (fun g r k i h => hW g r k i (Or.elim h (fun h => (Or.inr (Or.inr (Or.inr (Or.inr (Or.inr (Or.inr (Or.inr (Or.inr (Or.inr (Or.inr (Or.inr (Or.inr (Or.inr (Or.inr (Or.inr (Or.inr (Or.inr (Or.inr (Or.inr (Or.inr (Or.inr (Or.inr (Or.inr (Or.inr (Or.inr (Or.inr (Or.inr (Or.inr (Or.inr (Or.inr (Or.inr (Or.inr (Or.inr (Or.inr (Or.inr (Or.inr (Or.inr (Or.inr (Or.inr (Or.inr (Or.inr (Or.inr (Or.inr (Or.inl ⟨h.1, h.2.1, h.2.2⟩))))))))))))))))))))))))))))))))))))))))))))) (fun h => (Or.inr (Or.inr (Or.inr (Or.inr (Or.inr (Or.inr (Or.inr (Or.inr (Or.inr (Or.inr (Or.inr (Or.inr (Or.inr (Or.inr (Or.inr (Or.inr (Or.inr (Or.inr (Or.inr (Or.inr (Or.inr (Or.inr (Or.inr (Or.inr (Or.inr (Or.inr (Or.inr (Or.inr (Or.inr (Or.inr (Or.inr (Or.inr (Or.inr (Or.inr (Or.inr (Or.inr (Or.inr (Or.inr (Or.inr (Or.inr (Or.inr (Or.inr (Or.inr (Or.inr (Or.inr (Or.inl ⟨h.1, h.2.1, h.2.2⟩)))))))))))))))))))))))))))))))))))))))))))))))))) _ h16) (fun a21 S22 h17 => ?_)
  refine Kf.bd ((zk_Y_become (r0 := (r0)) (k0 := (1)) (r1 := (r1)) (k1 := (1)) (fun g r k i h => hW g r k i (Or.elim h (fun h => (Or.inr (Or.inr (Or.inr (Or.inr (Or.inr (Or.inr (Or.inr (Or.inr (Or.inr (Or.inr (Or.inr (Or.inr (Or.inr (Or.inr (Or.inr (Or.inr (Or.inr (Or.inr (Or.inr (Or.inr (Or.inr (Or.inr (Or.inr (Or.inr (Or.inr (Or.inr (Or.inr (Or.inr (Or.inr (Or.inr (Or.inr (Or.inr (Or.inr (Or.inr (Or.inr (Or.inr (Or.inr (Or.inr (Or.inr (Or.inr (Or.inr (Or.inr (Or.inr (Or.inr (Or.inl ⟨h.1, h.2.1, h.2.2⟩)))))))))))))))))))))))))))))))))))))))))))))) (fun h => (Or.inr (Or.inr (Or.inr (Or.inr (Or.inr (Or.inr (Or.inr (Or.inr (Or.inr (Or.inr (Or.inr (Or.inr (Or.inr (Or.inr (Or.inr (Or.inr (Or.inr (Or.inr (Or.inr (Or.inr (Or.inr (Or.inr (Or.inr (Or.inr (Or.inr (Or.inr (Or.inr (Or.inr (Or.inr (Or.inr (Or.inr (Or.inr (Or.inr (Or.inr (Or.inr (Or.inr (Or.inr (Or.inr (Or.inr (Or.inr (Or.inr (Or.inr (Or.inr (Or.inr (Or.inr (Or.inr ⟨h.1, h.2.1, h.2.2⟩)))))))))))))))))))))))))))))))))))))))))))))))))) _ h17) (fun a23 S24 h18 => ?_)
  exact Kf.some h18
def zr_O_worth (g : Nat) (r k i : Int) : Prop := (g = 0 ∧ r = 2 ∧ k = 0 ∧ i = 0) ∨ (g = 0 ∧ r = 2 ∧ k = 0 ∧ i = 1) ∨ (g = 0 ∧ r = 2 ∧ k = 0 ∧ i = 2) ∨ (g = 0 ∧ r = 2 ∧ k = 0 ∧ i = 3) ∨ (g = 0 ∧ r = 2 ∧ k = 0 ∧ i = 4) ∨ (g = 0 ∧ r = 2 ∧ k = 0 ∧ i = 5) ∨ (g = 0 ∧ r = 2 ∧ k = 0 ∧ i = 6) ∨ (g = 0 ∧ r = 2 ∧ k = 1) ∨ (g = 0 ∧ r = 2 ∧ k = 10) ∨ (g = 0 ∧ r = 2 ∧ k = 11) ∨ (g = 0 ∧ r = 2 ∧ k = 12) ∨ (g = 0 ∧ r = 2 ∧ k = 13) ∨ (g = 0 ∧ r = 2 ∧ k = 14) ∨ (g = 0 ∧ r = 2 ∧ k = 15) ∨ (g = 0 ∧ r = 2 ∧ k = 16 ∧ i = 0) ∨ (g = 0 ∧ r = 2 ∧ k = 17) ∨ (g = 0 ∧ r = 2 ∧ k = 18) ∨ (g = 0 ∧ r = 2 ∧ k = 19) ∨ (g = 0 ∧ r = 2 ∧ k = 2) ∨ (g = 0 ∧ r = 2 ∧ k = 20) ∨ (g = 0 ∧ r = 2 ∧ k = 21) ∨ (g = 0 ∧ r = 2 ∧ k = 22) ∨ (g = 0 ∧ r = 2 ∧ k = 23) ∨ (g = 0 ∧ r = 2 ∧ k = 24) ∨ (g = 0 ∧ r = 2 ∧ k = 25) ∨ (g = 0 ∧ r = 2 ∧ k = 26 ∧ i = 0) ∨ (g = 0 ∧ r = 2 ∧ k = 27) ∨ (g = 0 ∧ r = 2 ∧ k = 28) ∨ (g = 0 ∧ r = 2 ∧ k = 29) ∨ (g = 0 ∧ r = 2 ∧ k = 3) ∨ (g = 0 ∧ r = 2 ∧ k = 30) ∨ (g = 0 ∧ r = 2 ∧ k = 31 ∧ i = 3) ∨ (g = 0 ∧ r = 2 ∧ k = 32) ∨ (g = 0 ∧ r = 2 ∧ k = 33) ∨ (g = 0 ∧ r = 2 ∧ k = 34) ∨ (g = 0 ∧ r = 2 ∧ k = 35) ∨ (g = 0 ∧ r = 2 ∧ k = 36) ∨ (g = 0 ∧ r = 2 ∧ k = 4) ∨ (g = 0 ∧ r = 2 ∧ k = 5) ∨ (g = 0 ∧ r = 2 ∧ k = 6 ∧ i = 0) ∨ (g = 0 ∧ r = 2 ∧ k = 7) ∨ (g = 0 ∧ r = 2 ∧ k = 8) ∨ (g = 0 ∧ r = 2 ∧ k = 9) ∨ (g = 13 ∧ r = 2 ∧ k = 0) ∨ (g = 13 ∧ r = 2 ∧ k = 1) ∨ (g = 14 ∧ r = 2 ∧ k = 0) ∨ (g = 14 ∧ r = 2 ∧ k = 1) ∨ (g = 20 ∧ r = 0 ∧ k = 0) ∨ (g = 20 ∧ r = 0 ∧ k = 1) ∨ (g = 20 ∧ r = 0 ∧ k = 2) ∨ (g = 3 ∧ r = 0 ∧ k = 10 ∧ i = 5) ∨ (g = 3 ∧ r = 0 ∧ k = 11) ∨ (g = 3 ∧ r = 0 ∧ k = 12) ∨ (g = 3 ∧ r = 0 ∧ k = 13) ∨ (g = 3 ∧ r = 0 ∧ k = 14) ∨ (g = 3 ∧ r = 0 ∧ k = 15 ∧ i = 7) ∨ (g = 3 ∧ r = 0 ∧ k = 16) ∨ (g = 3 ∧ r = 0 ∧ k = 17) ∨ (g = 3 ∧ r = 0 ∧ k = 18) ∨ (g = 3 ∧ r = 0 ∧ k = 19) ∨ (g = 3 ∧ r = 0 ∧ k = 20) ∨ (g = 3 ∧ r = 0 ∧ k = 7 ∧ i = 2) ∨ (g = 3 ∧ r = 0 ∧ k = 8) ∨ (g = 3 ∧ r = 0 ∧ k = 9) ∨ (g = 4 ∧ k = 0)
theorem zk_O_worth {W : Nat → Int → Int → Int → Prop} {S0 : Sg} (hW : ∀ g r k i, zr_O_worth g r k i → W g r k i) : ∀ (x1 : Int) (x2 : Int) (S : Sg), Fm W S0 S → Kf W S0 (zf_O_worth x1 x2 S) := by
  intro x1 x2 S h0
  unfold zf_O_worth
  refine Kf.bd ((zk_Q_has (r0 := (0)) (fun _ _ _ _ h => h.elim)) _ _ h0) (fun a1 S2 h1 => ?_)
  refine Kf.ite ?_ ?_
  · skip
    exact Kf.some h1
  · skip
    refine Kf.ite ?_ ?_
    · skip
      exact Kf.some h1
    · skip
      refine Kf.ite ?_ ?_
      · skip
        refine Kf.ite ?_ ?_
        · skip
          refine Kf.bd ((zk_I_become (r0 := (2)) (r1 := (0)) (fun g r k i h => hW g r k i (Or.elim h (fun h => (Or.inl ⟨h.1, h.2.1, h.2.2.1, h.2.2.2⟩)) (fun h => (Or.elim h (fun h => (Or.inr (Or.inl ⟨h.1, h.2.1, h.2.2.1, h.2.2.2⟩))) (fun h => (Or.elim h (fun h => (Or.inr (Or.inr (Or.inl ⟨h.1, h.2.1, h.2.2.1, h.2.2.2⟩)))) (fun h => (Or.elim h (fun h => (Or.inr (Or.inr (Or.inr (Or.inl ⟨h.1, h.2.1, h.2.2.1, h.2.2.2⟩))))) (fun h => (Or.elim h (fun h => (Or.inr (Or.inr (Or.inr (Or.inr (Or.inl ⟨h.1, h.2.1, h.2.2.1, h.2.2.2⟩)))))) (fun h => (Or.elim h (fun h => (Or.inr (Or.inr (Or.inr (Or.inr (Or.inr (Or.inl ⟨h.1, h.2.1, h.2.2.1, h.2.2.2⟩))))))) (fun h => (Or.elim h (fun h => (Or.inr (Or.inr (Or.inr (Or.inr (Or.inr (Or.inr (Or.inl ⟨h.1, h.2.1, h.2.2.1, h.2.2.2⟩)))))))) (fun h => (Or.elim h (fun h => (Or.inr (Or.inr (Or.inr (Or.inr (Or.inr (Or.inr (Or.inr (Or.inl ⟨h.1, h.2.1, h.2.2⟩))))))))) (fun h => (Or.elim h (fun h => (Or.inr (Or.inr (Or.inr (Or.inr (Or.inr (Or.inr (Or.inr (Or.inr (Or.inl ⟨h.1, h.2.1, h.2.2⟩)))))))))) (fun h => (Or.elim h (fun h => (Or.inr (Or.inr (Or.inr (Or.inr (Or.inr (Or.inr (Or.inr (Or.inr (Or.inr (Or.inl ⟨h.1, h.2.1, h.2.2⟩))))))))))) (fun h => (Or.elim h (fun h => (Or.inr (Or.inr (Or.inr (Or.inr (Or.inr (Or.inr (Or.inr (Or.inr (Or.inr (Or.inr (Or.inl ⟨h.1, h.2.1, h.2.2⟩)))))))))))) (fun h => (Or.elim h (fun h => (Or.inr (Or.inr (Or.inr (Or.inr (Or.inr (Or.inr (Or.inr (Or.inr (Or.inr (Or.inr (Or.inr (Or.inl ⟨h.1, h.2.1, h.2.2⟩))))))))))))) (fun h => (Or.elim h (fun h => (Or.inr (Or.inr (Or.inr (Or.inr (Or.inr (Or.inr (Or.inr (Or.inr (Or.inr (Or.inr (Or.inr (Or.inr (Or.inl ⟨h.1, h.2.1, h.2.2⟩)))))))))))))) (fun h => (Or.elim h (fun h => (Or.inr (Or.inr (Or.inr (Or.inr (Or.inr (Or.inr (Or.inr (Or.inr (Or.inr (Or.inr (Or.inr (Or.inr (Or.inr (Or.inl ⟨h.1, h.2.1, h.2.2⟩))))))))))))))) (fun h => (Or.elim h (fun h => (Or.inr (Or.inr (Or.inr (Or.inr (Or.inr (Or.inr (Or.inr (Or.inr (Or.inr (Or.inr (Or.inr (Or.inr (Or.inr (Or.inr (Or.inl ⟨h.1, h.2.1, h.2.2.1, h.2.2.2⟩)))))))))))))))) (fun h => (Or.elim h (fun h => (Or.inr (Or.inr (Or.inr (Or.inr (Or.inr (Or.inr (Or.inr (Or.inr (Or.inr (Or.inr (Or.inr (Or.inr (Or.inr (Or.inr (Or.inr (Or.inl ⟨h.1, h.2.1, h.2.2⟩))))))))))))))))) (fun h => (Or.elim h (fun h => (Or.inr (Or.inr (Or.inr (Or.inr (Or.inr (Or.inr (Or.inr (Or.inr (Or.inr (Or.inr (Or.inr (Or.inr (Or.inr (Or.inr (Or.inr (Or.inr (Or.inl ⟨h.1, h.2.1, h.2.2⟩)))))))))))))))))) (fun h => (Or.elim h (fun h => (Or.inr (Or.inr (Or.inr (Or.inr (Or.inr (Or.inr (Or.inr (Or.inr (Or.inr (Or.inr (Or.inr (Or.inr (Or.inr (Or.inr (Or.inr (Or.inr (Or.inr (Or.inl ⟨h.1, h.2.1, h.2.2⟩))))))))))))))))))) (fun h => (Or.elim h (fun h => (Or.inr (Or.inr (Or.inr (Or.inr (Or.inr (Or.inr (Or.inr (Or.inr (Or.inr (Or.inr (Or.inr (Or.inr (Or.inr (Or.inr (Or.inr (Or.inr (Or.inr (Or.inr (Or.inl ⟨h.1, h.2.1, h.2.2⟩)))))))))))))))))))) (fun h => (Or.elim h (fun h => (Or.inr (Or.inr (Or.inr (Or.inr (Or.inr (Or.inr (Or.inr (Or.inr (Or.inr (Or.inr (Or.inr (Or.inr (Or.inr (Or.inr (Or.inr (Or.inr (Or.inr (Or.inr (Or.inr (Or.inl ⟨h.1, h.2.1, h.2.2⟩))))))))))))))))))))) (fun h => (Or.elim h (fun h => (Or.inr (Or.inr (Or.inr (Or.inr (Or.inr (Or.inr (Or.inr (Or.inr (Or.inr (Or.inr (Or.inr (Or.inr (Or.inr (Or.inr (Or.inr (Or.inr (Or.inr (Or.inr (Or.inr (Or.inr (Or.inl ⟨h.1, h.2.1, h.2.2⟩)))))))))))))))))))))) (fun h => (Or.elim h (fun h => (Or.inr (Or.inr (Or.inr (Or.inr (Or.inr (Or.inr (Or.inr (Or.inr (Or.inr (Or.inr (Or.inr (Or.inr (Or.inr (Or.inr (Or.inr (Or.inr (Or.inr (Or.inr (Or.inr (Or.inr (Or.inr (Or.inl ⟨h.1, h.2.1, h.2.2⟩))))))))))))))))))))))) (fun h => (Or.elim h (fun h => (Or.inr (Or.inr (Or.inr (Or.inr (Or.inr (Or.inr (Or.inr (Or.inr (Or.inr (Or.inr (Or.inr (Or.inr (Or.inr (Or.inr (Or.inr (Or.inr (Or.inr (Or.inr (Or.inr (Or.inr (Or.inr (Or.inr (Or.inl ⟨h.1, h.2.1, h.2.2⟩)))))))))))))))))))))))) (fun h => (Or.elim h (fun h => (Or.inr (Or.inr (Or.inr (Or.inr (Or.inr (Or.inr (Or.inr (Or.inr (Or.inr (Or.inr (Or.inr (Or.inr (Or.inr (Or.inr (Or.inr (Or.inr (Or.inr (Or.inr (Or.inr (Or.inr (Or.inr (Or.inr (Or.inr (Or.inl ⟨h.1, h.2.1, h.2.2⟩))))))))))))))))))))))))) (fun h => (Or.elim h (fun h => (Or.inr (Or.inr (Or.inr (Or.inr (Or.inr (Or.inr (Or.inr (Or.inr (Or.inr (Or.inr (Or.inr (Or.inr (Or.inr (Or.inr (Or.inr (Or.inr (Or.inr (Or.inr (Or.inr (Or.inr (Or.inr (Or.inr (Or.inr (Or.inr (Or.inl ⟨h.1, h.2.1, h.2.2⟩)))))))))))))))))))))))))) (fun h => (Or.elim h (fun h => (Or.inr (Or.inr (Or.inr (Or.inr (Or.inr (Or.inr (Or.inr (Or.inr (Or.inr (Or.inr (Or.inr (Or.inr (Or.inr (Or.inr (Or.inr (Or.inr (Or.inr (Or.inr (Or.inr (Or.inr (Or.inr (Or.inr (Or.inr (Or.inr (Or.inr (Or.inl ⟨h.1, h.2.1, h.2.2.1, h.2.2.2⟩))))))))))))))))))))))))))) (fun h => (Or.elim h (fun h => (Or.inr (Or.inr (Or.inr (Or.inr (Or.inr (Or.inr (Or.inr (Or.inr (Or.inr (Or.inr (Or.inr (Or.inr (Or.inr (Or.inr (Or.inr (Or.inr (Or.inr (Or.inr (Or.inr (Or.inr (Or.inr (Or.inr (Or.inr (Or.inr (Or.inr (Or.inr (Or.inl ⟨h.1, h.2.1, h.2.2⟩)))))))))))))))))))))))))))) (fun h => (Or.elim h (fun h => (Or.inr (Or.inr (Or.inr (Or.inr (Or.inr (Or.inr (Or.inr (Or.inr (Or.inr (Or.inr (Or.inr (Or.inr (Or.inr (Or.inr (Or.inr (Or.inr (Or.inr (Or.inr (Or.inr (Or.inr (Or.inr (Or.inr (Or.inr (Or.inr (Or.inr (Or.inr (Or.inr (Or.inl ⟨h.1, h.2.1, h.2.2⟩))))))))))))))))))))))))))))) (fun h => (Or.elim h (fun h => (Or.inr (Or.inr (Or.inr (Or.inr (Or.inr (Or.inr (Or.inr (Or.inr (Or.inr (Or.inr (Or.inr (Or.inr (Or.inr (Or.inr (Or.inr (Or.inr (Or.inr (Or.inr (Or.inr (Or.inr (Or.inr (Or.inr (Or.inr (Or.inr (Or.inr (Or.inr (Or.inr (Or.inr (Or.inl ⟨h.1, h.2.1, h.2.2⟩)))))))))))))))))))))))))))))) (fun h => (Or.elim h (fun h => (Or.inr (Or.inr (Or.inr (Or.inr (Or.inr (Or.inr (Or.inr (Or.inr (Or.inr (Or.inr (Or.inr (Or.inr (Or.inr (Or.inr (Or.inr (Or.inr (Or.inr (Or.inr (Or.inr (Or.inr (Or.inr (Or.inr (Or.inr (Or.inr (Or.inr (Or.inr (Or.inr (Or.inr (Or.inr (Or.inl ⟨h.1, h.2.1, h.2.2⟩))))))))))))))))))))))))))))))) (fun h => (Or.elim h (fun h => (Or.inr (Or.inr (Or.inr (Or.inr (Or.inr (Or.inr (Or.inr (Or.inr (Or.inr (Or.inr (Or.inr (Or.inr (Or.inr (Or.inr (Or.inr (Or.inr (Or.inr (Or.inr (Or.inr (Or.inr (Or.inr (Or.inr (Or.inr (Or.inr (Or.inr (Or.inr (Or.inr (Or.inr (Or.inr (Or.inr (Or.inl ⟨h.1, h.2.1, h.2.2⟩)))))))))))))))))))))))))))))))) (fun h => (Or.elim h (fun h => (Or.inr (Or.inr (Or.inr (Or.inr (Or.inr (Or.inr (Or.inr (Or.inr (Or.inr (Or.inr (Or.inr (Or.inr (Or.inr (Or.inr (Or.inr (Or.inr (Or.inr (Or.inr (Or.inr (Or.inr (Or.inr (Or.inr (Or.inr (Or.inr (Or.inr (Or.inr (Or.inr (Or.inr (Or.inr (Or.inr (Or.inr (Or.inl ⟨h.1, h.2.1, h.2.2.1, h.2.2.2⟩))))))))))))))))))))))))))))))))) (fun h => (Or.elim h (fun h => (Or.inr (Or.inr (Or.inr (Or.inr (Or.inr (Or.inr (Or.inr (Or.inr (Or.inr (Or.inr (Or.inr (Or.inr (Or.inr (Or.inr (Or.inr (Or.inr (Or.inr (Or.inr (Or.inr (Or.inr (Or.inr (Or.inr (Or.inr (Or.inr (Or.inr (Or.inr (Or.inr (Or.inr (Or.inr (Or.inr (Or.inr (Or.inr (Or.inl ⟨h.1, h.2.1, h.2.2⟩)))))))))))))))))))))))))))))))))) (fun h => (Or.elim h (fun h => (Or.inr (Or.inr (Or.inr (Or.inr (Or.inr (Or.inr (Or.inr (Or.inr (Or.inr (Or.inr (Or.inr (Or.inr (Or.inr (Or.inr (Or.inr (Or.inr (Or.inr (Or.inr (Or.inr (Or.inr (Or.inr (Or.inr (Or.inr (Or.inr (Or.inr (Or.inr (Or.inr (Or.inr (Or.inr (Or.inr (Or.inr (Or.inr (Or.inr (Or.inl ⟨h.1, h.2.1, h.2.2⟩))))))))))))))))))))))))))))))))))) (fun h => (Or.elim h (fun h => (Or.inr (Or.inr (Or.inr (Or.inr (Or.inr (Or.inr (Or.inr (Or.inr (Or.inr (Or.inr (Or.inr (Or.inr (Or.inr (Or.inr (Or.inr (Or.inr (Or.inr (Or.inr (Or.inr (Or.inr (Or.inr (Or.inr (Or.inr (Or.inr (Or.inr (Or.inr (Or.inr (Or.inr (Or.inr (Or.inr (Or.inr (Or.inr (Or.inr (Or.inr (Or.inl ⟨h.1, h.2.1, h.2.2⟩)))))))))))))))))))))))))))))))))))) (fun h => (Or.elim h (fun h => (Or.inr (Or.inr (Or.inr (Or.inr (Or.inr (Or.inr (Or.inr (Or.inr (Or.inr (Or.inr (Or.inr (Or.inr (Or.inr (Or.inr (Or.inr (Or.inr (Or.inr (Or.inr (Or.inr (Or.inr (Or.inr (Or.inr (Or.inr (Or.inr (Or.inr (Or.inr (Or.inr (Or.inr (Or.inr (Or.inr (Or.inr (Or.inr (Or.inr (Or.inr (Or.inr (Or.inl ⟨h.1, h.2.1, h.2.2⟩))))))))))))))))))))))))))))))))))))) (fun h => (Or.elim h (fun h => (Or.inr (Or.inr (Or.inr (Or.inr (Or.inr (Or.inr (Or.inr (Or.inr (Or.inr (Or.inr (Or.inr (Or.inr (Or.inr (Or.inr (Or.inr (Or.inr (Or.inr (Or.inr (Or.inr (Or.inr (Or.inr (Or.inr (Or.inr (Or.inr (Or.inr (Or.inr (Or.inr (Or.inr (Or.inr (Or.inr (Or.inr (Or.inr (Or.inr (Or.inr (Or.inr (Or.inr (Or.inl ⟨h.1, h.2.1, h.2.2⟩)))))))))))))))))))))))))))))))))))))) (fun h => (Or.elim h (fun h => (Or.inr (Or.inr (Or.inr (Or.inr (Or.inr (Or.inr (Or.inr (Or.inr (Or.inr (Or.inr (Or.inr (Or.inr (Or.inr (Or.inr (Or.inr (Or.inr (Or.inr (Or.inr (Or.inr (Or.inr (Or.inr (Or.inr (Or.inr (Or.inr (Or.inr (Or.inr (Or.inr (Or.inr (Or.inr (Or.inr (Or.inr (Or.inr (Or.inr (Or.inr (Or.inr (Or.inr (Or.inr (Or.inl ⟨h.1, h.2.1, h.2.2⟩))))))))))))))))))))))))))))))))))))))) (fun h => (Or.elim h (fun h => (Or.inr (Or.inr (Or.inr (Or.inr (Or.inr (Or.inr (Or.inr (Or.inr (Or.inr (Or.inr (Or.inr (Or.inr (Or.inr (Or.inr (Or.inr (Or.inr (Or.inr (Or.inr (Or.inr (Or.inr (Or.inr (Or.inr (Or.inr (Or.inr (Or.inr (Or.inr (Or.inr (Or.inr (Or.inr (Or.inr (Or.inr (Or.inr (Or.inr (Or.inr (Or.inr (Or.inr (Or.inr (Or.inr (Or.inl ⟨h.1, h.2.1, h.2.2⟩)))))))))))))))))))))))))))))))))))))))) (fun h => (Or.elim h (fun h => (Or.inr (Or.inr (Or.inr (Or.inr (Or.inr (Or.inr (Or.inr (Or.inr (Or.inr (Or.inr (Or.inr (Or.inr (Or.inr (Or.inr (Or.inr (Or.inr (Or.inr (Or.inr (Or.inr (Or.inr (Or.inr (Or.inr (Or.inr (Or.inr (Or.inr (Or.inr (Or.inr (Or.inr (Or.inr (Or.inr (Or.inr (Or.inr (Or.inr (Or.inr (Or.inr (Or.inr (Or.inr (Or.inr (Or.inr (Or.inl ⟨h.1, h.2.1, h.2.2.1, h.2.2.2⟩))))))))))))))))))))))))))))))))))))))))) (fun h => (Or.elim h (fun h => (Or.inr (Or.inr (Or.inr (Or.inr (Or.inr (Or.inr (Or.inr (Or.inr (Or.inr (Or.inr (Or.inr (Or.inr (Or.inr (Or.inr (Or.inr (Or.inr (Or.inr (Or.inr (Or.inr (Or.inr (Or.inr (Or.inr (Or.inr (Or.inr (Or.inr (Or.inr (Or.inr (Or.inr (Or.inr (Or.inr (Or.inr (Or.inr (Or.inr (Or.inr (Or.inr (Or.inr (Or.inr (Or.inr (Or.inr (Or.inr (Or.inl ⟨h.1, h.2.1, h.2.2⟩)))))))))))))))))))))))))))))))))))))))))) (fun h => (Or.elim h (fun h => (Or.inr (Or.inr (Or.inr (Or.inr (Or.inr (Or.inr (Or.inr (Or.inr (Or.inr (Or.inr (Or.inr (Or.inr (Or.inr (Or.inr (Or.inr (Or.inr (Or.inr (Or.inr (Or.inr (Or.inr (Or.inr (Or.inr (Or.inr (Or.inr (Or.inr (Or.inr (Or.inr (Or.inr (Or.inr (Or.inr (Or.inr (Or.inr (Or.inr (Or.inr (Or.inr (Or.inr (Or.inr (Or.inr (Or.inr (Or.inr (Or.inr (Or.inl ⟨h.1, h.2.1, h.2.2⟩))))))))))))))))))))))))))))))))))))))))))) (fun h => (Or.elim h (fun h => (Or.inr (Or.inr (Or.inr (Or.inr (Or.inr (Or.inr (Or.inr (Or.inr (Or.inr (Or.inr (Or.inr (Or.inr (Or.inr (Or.inr (Or.inr (Or.inr (Or.inr (Or.inr (Or.inr (Or.inr (Or.inr (Or.inr (Or.inr (Or.inr (Or.inr (Or.inr (Or.inr (Or.inr (Or.inr (Or.inr (Or.inr (Or.inr (Or.inr (Or.inr (Or.inr (Or.inr (Or.inr (Or.inr (Or.inr (Or.inr (Or.inr (Or.inr (Or.inl ⟨h.1, h.2.1, h.2.2⟩)))))))))))))))))))))))))))))))))))))))))))) (fun h => (Or.elim h (fun h => (Or.inr (Or.inr (Or.inr (Or.inr (Or.inr (Or.inr (Or.inr (Or.inr (Or.inr (Or.inr (Or.inr (Or.inr (Or.inr (Or.inr (Or.inr (Or.inr (Or.inr (Or.inr (Or.inr (Or.inr (Or.inr (Or.inr (Or.inr (Or.inr (Or.inr (Or.inr (Or.inr (Or.inr (Or.inr (Or.inr (Or.inr (Or.inr (Or.inr (Or.inr (Or.inr (Or.inr (Or.inr (Or.inr (Or.inr (Or.inr (Or.inr (Or.inr (Or.inr (Or.inl ⟨h.1, h.2.1, h.2.2⟩))))))))))))))))))))))))))))))))))))))))))))) (fun h => (Or.elim h (fun h => (Or.inr (Or.inr (Or.inr (Or.inr (Or.inr (Or.inr (Or.inr (Or.inr (Or.inr (Or.inr (Or.inr (Or.inr (Or.inr (Or.inr (Or.inr (Or.inr (Or.inr (Or.inr (Or.inr (Or.inr (Or.inr (Or.inr (Or.inr (Or.inr (Or.inr (Or.inr (Or.inr (Or.inr (Or.inr (Or.inr (Or.inr (Or.inr (Or.inr (Or.inr (Or.inr (Or.inr (Or.inr (Or.inr (Or.inr (Or.inr (Or.inr (Or.inr (Or.inr (Or.inr (Or.inl ⟨h.1, h.2.1, h.2.2⟩)))))))))))))))))))))))))))))))))))))))))))))) (fun h => (Or.elim h (fun h => (Or.inr (Or.inr (Or.inr (Or.inr (Or.inr (Or.inr (Or.inr (Or.inr (Or.inr (Or.inr (Or.inr (Or.inr (Or.inr (Or.inr (Or.inr (Or.inr (Or.inr (Or.inr (Or.inr (Or.inr (Or.inr (Or.inr (Or.inr (Or.inr (Or.inr (Or.inr (Or.inr (Or.inr (Or.inr (Or.inr (Or.inr (Or.inr (Or.inr (Or.inr (Or.inr (Or.inr (Or.inr (Or.inr (Or.inr (Or.inr (Or.inr (Or.inr (Or.inr (Or.inr (Or.inr (Or.inl ⟨h.1, h.2.1, h.2.2⟩))))))))))))))))))))))))))))))))))))))))))))))) (fun h => (Or.inr (Or.inr (Or.inr (Or.inr (Or.inr (Or.inr (Or.inr (Or.inr (Or.inr (Or.inr (Or.inr (Or.inr (Or.inr (Or.inr (Or.inr (Or.inr (Or.inr (Or.inr (Or.inr (Or.inr (Or.inr (Or.inr (Or.inr (Or.inr (Or.inr (Or.inr (Or.inr (Or.inr (Or.inr (Or.inr (Or.inr (Or.inr (Or.inr (Or.inr (Or.inr (Or.inr (Or.inr (Or.inr (Or.inr (Or.inr (Or.inr (Or.inr (Or.inr (Or.inr (Or.inr (Or.inr (Or.inl ⟨h.1, h.2.1, h.2.2⟩))))))))))))))))))))))))))))))))))))))))))))))))))))))))))))))))))))))))))))))))))))))))))))))))))))))))))))))))))))))))))))))))))))))))))))) _ h1) (fun a7 S8 h2 => ?_)
          refine Kf.bd ((zk_O_headsInMind (fun g r k i h => hW g r k i (Or.elim h (fun h => (Or.inl ⟨h.1, h.2.1, h.2.2.1, h.2.2.2⟩)) (fun h => (Or.elim h (fun h => (Or.inr (Or.inl ⟨h.1, h.2.1, h.2.2.1, h.2.2.2⟩))) (fun h => (Or.elim h (fun h => (Or.inr (Or.inr (Or.inl ⟨h.1, h.2.1, h.2.2.1, h.2.2.2⟩)))) (fun h => (Or.elim h (fun h => (Or.inr (Or.inr (Or.inr (Or.inl ⟨h.1, h.2.1, h.2.2.1, h.2.2.2⟩))))) (fun h => (Or.elim h (fun h => (Or.inr (Or.inr (Or.inr (Or.inr (Or.inl ⟨h.1, h.2.1, h.2.2.1, h.2.2.2⟩)))))) (fun h => (Or.elim h (fun h => (Or.inr (Or.inr (Or.inr (Or.inr (Or.inr (Or.inr (Or.inl ⟨h.1, h.2.1, h.2.2.1, h.2.2.2⟩)))))))) (fun h => (Or.elim h (fun h => (Or.inr (Or.inr (Or.inr (Or.inr (Or.inr (Or.inr (Or.inr (Or.inr (Or.inr (Or.inl ⟨h.1, h.2.1, h.2.2⟩))))))))))) (fun h => (Or.elim h (fun h => (Or.inr (Or.inr (Or.inr (Or.inr (Or.inr (Or.inr (Or.inr (Or.inr (Or.inr (Or.inr (Or.inr (Or.inl ⟨h.1, h.2.1, h.2.2⟩))))))))))))) (fun h => (Or.elim h (fun h => (Or.inr (Or.inr (Or.inr (Or.inr (Or.inr (Or.inr (Or.inr (Or.inr (Or.inr (Or.inr (Or.inr (Or.inr (Or.inl ⟨h.1, h.2.1, h.2.2⟩)))))))))))))) (fun h => (Or.elim h (fun h => (Or.inr (Or.inr (Or.inr (Or.inr (Or.inr (Or.inr (Or.inr (Or.inr (Or.inr (Or.inr (Or.inr (Or.inr (Or.inr (Or.inl ⟨h.1, h.2.1, h.2.2⟩))))))))))))))) (fun h => (Or.elim h (fun h => (Or.inr (Or.inr (Or.inr (Or.inr (Or.inr (Or.inr (Or.inr (Or.inr (Or.inr (Or.inr (Or.inr (Or.inr (Or.inr (Or.inr (Or.inr (Or.inr (Or.inr (Or.inr (Or.inl ⟨h.1, h.2.1, h.2.2⟩)))))))))))))))))))) (fun h => (Or.elim h (fun h => (Or.inr (Or.inr (Or.inr (Or.inr (Or.inr (Or.inr (Or.inr (Or.inr (Or.inr (Or.inr (Or.inr (Or.inr (Or.inr (Or.inr (Or.inr (Or.inr (Or.inr (Or.inr (Or.inr (Or.inr (Or.inr (Or.inr (Or.inr (Or.inr (Or.inr (Or.inr (Or.inr (Or.inr (Or.inr (Or.inl ⟨h.1, h.2.1, h.2.2⟩))))))))))))))))))))))))))))))) (fun h => (Or.elim h (fun h => (Or.inr (Or.inr (Or.inr (Or.inr (Or.inr (Or.inr (Or.inr (Or.inr (Or.inr (Or.inr (Or.inr (Or.inr (Or.inr (Or.inr (Or.inr (Or.inr (Or.inr (Or.inr (Or.inr (Or.inr (Or.inr (Or.inr (Or.inr (Or.inr (Or.inr (Or.inr (Or.inr (Or.inr (Or.inr (Or.inr (Or.inr (Or.inr (Or.inl ⟨h.1, h.2.1, h.2.2⟩)))))))))))))))))))))))))))))))))) (fun h => (Or.elim h (fun h => (Or.inr (Or.inr (Or.inr (Or.inr (Or.inr (Or.inr (Or.inr (Or.inr (Or.inr (Or.inr (Or.inr (Or.inr (Or.inr (Or.inr (Or.inr (Or.inr (Or.inr (Or.inr (Or.inr (Or.inr (Or.inr (Or.inr (Or.inr (Or.inr (Or.inr (Or.inr (Or.inr (Or.inr (Or.inr (Or.inr (Or.inr (Or.inr (Or.inr (Or.inr (Or.inr (Or.inr (Or.inl ⟨h.1, h.2.1, h.2.2⟩)))))))))))))))))))))))))))))))))))))) (fun h => (Or.elim h (fun h => (Or.inr (Or.inr (Or.inr (Or.inr (Or.inr (Or.inr (Or.inr (Or.inr (Or.inr (Or.inr (Or.inr (Or.inr (Or.inr (Or.inr (Or.inr (Or.inr (Or.inr (Or.inr (Or.inr (Or.inr (Or.inr (Or.inr (Or.inr (Or.inr (Or.inr (Or.inr (Or.inr (Or.inr (Or.inr (Or.inr (Or.inr (Or.inr (Or.inr (Or.inr (Or.inr (Or.inr (Or.inr (Or.inr (Or.inl ⟨h.1, h.2.1, h.2.2⟩)))))))))))))))))))))))))))))))))))))))) (fun h => (Or.elim h (fun h => (Or.inr (Or.inr (Or.inr (Or.inr (Or.inr (Or.inr (Or.inr (Or.inr (Or.inr (Or.inr (Or.inr (Or.inr (Or.inr (Or.inr (Or.inr (Or.inr (Or.inr (Or.inr (Or.inr (Or.inr (Or.inr (Or.inr (Or.inr (Or.inr (Or.inr (Or.inr (Or.inr (Or.inr (Or.inr (Or.inr (Or.inr (Or.inr (Or.inr (Or.inr (Or.inr (Or.inr (Or.inr (Or.inr (Or.inr (Or.inr (Or.inr (Or.inr (Or.inr (Or.inr (Or.inr (Or.inr (Or.inr (Or.inl ⟨h.1, h.2.1, h.2.2⟩))))))))))))))))))))))))))))))))))))))))))))))))) (fun h => (Or.elim h (fun h => (Or.inr (Or.inr (Or.inr (Or.inr (Or.inr (Or.inr (Or.inr (Or.inr (Or.inr (Or.inr (Or.inr (Or.inr (Or.inr (Or.inr (Or.inr (Or.inr (Or.inr (Or.inr (Or.inr (Or.inr (Or.inr (Or.inr (Or.inr (Or.inr (Or.inr (Or.inr (Or.inr (Or.inr (Or.inr (Or.inr (Or.inr (Or.inr (Or.inr (Or.inr (Or.inr (Or.inr (Or.inr (Or.inr (Or.inr (Or.inr (Or.inr (Or.inr (Or.inr (Or.inr (Or.inr (Or.inr (Or.inr (Or.inr (Or.inl ⟨h.1, h.2.1, h.2.2⟩)))))))))))))))))))))))))))))))))))))))))))))))))) (fun h => (Or.elim h (fun h => (Or.inr (Or.inr (Or.inr (Or.inr (Or.inr (Or.inr (Or.inr (Or.inr (Or.inr (Or.inr (Or.inr (Or.inr (Or.inr (Or.inr (Or.inr (Or.inr (Or.inr (Or.inr (Or.inr (Or.inr (Or.inr (Or.inr (Or.inr (Or.inr (Or.inr (Or.inr (Or.inr (Or.inr (Or.inr (Or.inr (Or.inr (Or.inr (Or.inr (Or.inr (Or.inr (Or.inr (Or.inr (Or.inr (Or.inr (Or.inr (Or.inr (Or.inr (Or.inr (Or.inr (Or.inr (Or.inr (Or.inr (Or.inr (Or.inr (Or.inl ⟨h.1, h.2.1, h.2.2⟩))))))))))))))))))))))))))))))))))))))))))))))))))) (fun h => (Or.elim h (fun h => (Or.inr (Or.inr (Or.inr (Or.inr (Or.inr (Or.inr (Or.inr (Or.inr (Or.inr (Or.inr (Or.inr (Or.inr (Or.inr (Or.inr (Or.inr (Or.inr (Or.inr (Or.inr (Or.inr (Or.inr (Or.inr (Or.inr (Or.inr (Or.inr (Or.inr (Or.inr (Or.inr (Or.inr (Or.inr (Or.inr (Or.inr (Or.inr (Or.inr (Or.inr (Or.inr (Or.inr (Or.inr (Or.inr (Or.inr (Or.inr (Or.inr (Or.inr (Or.inr (Or.inr (Or.inr (Or.inr (Or.inr (Or.inr (Or.inr (Or.inr (Or.inl ⟨h.1, h.2.1, h.2.2.1, h.2.2.2⟩)))))))))))))))))))))))))))))))))))))))))))))))))))) (fun h => (Or.elim h (fun h => (Or.inr (Or.inr (Or.inr (Or.inr (Or.inr (Or.inr (Or.inr (Or.inr (Or.inr (Or.inr (Or.inr (Or.inr (Or.inr (Or.inr (Or.inr (Or.inr (Or.inr (Or.inr (Or.inr (Or.inr (Or.inr (Or.inr (Or.inr (Or.inr (Or.inr (Or.inr (Or.inr (Or.inr (Or.inr (Or.inr (Or.inr (Or.inr (Or.inr (Or.inr (Or.inr (Or.inr (Or.inr (Or.inr (Or.inr (Or.inr (Or.inr (Or.inr (Or.inr (Or.inr (Or.inr (Or.inr (Or.inr (Or.inr (Or.inr (Or.inr (Or.inr (Or.inl ⟨h.1, h.2.1, h.2.2⟩))))))))))))))))))))))))))))))))))))))))))))))))))))) (fun h => (Or.elim h (fun h => (Or.inr (Or.inr (Or.inr (Or.inr (Or.inr (Or.inr (Or.inr (Or.inr (Or.inr (Or.inr (Or.inr (Or.inr (Or.inr (Or.inr (Or.inr (Or.inr (Or.inr (Or.inr (Or.inr (Or.inr (Or.inr (Or.inr (Or.inr (Or.inr (Or.inr (Or.inr (Or.inr (Or.inr (Or.inr (Or.inr (Or.inr (Or.inr (Or.inr (Or.inr (Or.inr (Or.inr (Or.inr (Or.inr (Or.inr (Or.inr (Or.inr (Or.inr (Or.inr (Or.inr (Or.inr (Or.inr (Or.inr (Or.inr (Or.inr (Or.inr (Or.inr (Or.inr (Or.inl ⟨h.1, h.2.1, h.2.2⟩)))))))))))))))))))))))))))))))))))))))))))))))))))))) (fun h => (Or.elim h (fun h => (Or.inr (Or.inr (Or.inr (Or.inr (Or.inr (Or.inr (Or.inr (Or.inr (Or.inr (Or.inr (Or.inr (Or.inr (Or.inr (Or.inr (Or.inr (Or.inr (Or.inr (Or.inr (Or.inr (Or.inr (Or.inr (Or.inr (Or.inr (Or.inr (Or.inr (Or.inr (Or.inr (Or.inr (Or.inr (Or.inr (Or.inr (Or.inr (Or.inr (Or.inr (Or.inr (Or.inr (Or.inr (Or.inr (Or.inr (Or.inr (Or.inr (Or.inr (Or.inr (Or.inr (Or.inr (Or.inr (Or.inr (Or.inr (Or.inr (Or.inr (Or.inr (Or.inr (Or.inr (Or.inl ⟨h.1, h.2.1, h.2.2⟩))))))))))))))))))))))))))))))))))))))))))))))))))))))) (fun h => (Or.elim h (fun h => (Or.inr (Or.inr (Or.inr (Or.inr (Or.inr (Or.inr (Or.inr (Or.inr (Or.inr (Or.inr (Or.inr (Or.inr (Or.inr (Or.inr (Or.inr (Or.inr (Or.inr (Or.inr (Or.inr (Or.inr (Or.inr (Or.inr (Or.inr (Or.inr (Or.inr (Or.inr (Or.inr (Or.inr (Or.inr (Or.inr (Or.inr (Or.inr (Or.inr (Or.inr (Or.inr (Or.inr (Or.inr (Or.inr (Or.inr (Or.inr (Or.inr (Or.inr (Or.inr (Or.inr (Or.inr (Or.inr (Or.inr (Or.inr (Or.inr (Or.inr (Or.inr (Or.inr (Or.inr (Or.inr (Or.inl ⟨h.1, h.2.1, h.2.2⟩)))))))))))))))))))))))))))))))))))))))))))))))))))))))) (fun h => (Or.elim h (fun h => (Or.inr (Or.inr (Or.inr (Or.inr (Or.inr (Or.inr (Or.inr (Or.inr (Or.inr (Or.inr (Or.inr (Or.inr (Or.inr (Or.inr (Or.inr (Or.inr (Or.inr (Or.inr (Or.inr (Or.inr (Or.inr (Or.inr (Or.inr (Or.inr (Or.inr (Or.inr (Or.inr (Or.inr (Or.inr (Or.inr (Or.inr (Or.inr (Or.inr (Or.inr (Or.inr (Or.inr (Or.inr (Or.inr (Or.inr (Or.inr (Or.inr (Or.inr (Or.inr (Or.inr (Or.inr (Or.inr (Or.inr (Or.inr (Or.inr (Or.inr (Or.inr (Or.inr (Or.inr (Or.inr (Or.inr (Or.inl ⟨h.1, h.2.1, h.2.2.1, h.2.2.2⟩))))))))))))))))))))))))))))))))))))))))))))))))))))))))) (fun h => (Or.elim h (fun h => (Or.inr (Or.inr (Or.inr (Or.inr (Or.inr (Or.inr (Or.inr (Or.inr (Or.inr (Or.inr (Or.inr (Or.inr (Or.inr (Or.inr (Or.inr (Or.inr (Or.inr (Or.inr (Or.inr (Or.inr (Or.inr (Or.inr (Or.inr (Or.inr (Or.inr (Or.inr (Or.inr (Or.inr (Or.inr (Or.inr (Or.inr (Or.inr (Or.inr (Or.inr (Or.inr (Or.inr (Or.inr (Or.inr (Or.inr (Or.inr (Or.inr (Or.inr (Or.inr (Or.inr (Or.inr (Or.inr (Or.inr (Or.inr (Or.inr (Or.inr (Or.inr (Or.inr (Or.inr (Or.inr (Or.inr (Or.inr (Or.inl ⟨h.1, h.2.1, h.2.2⟩)))))))))))))))))))))))))))))))))))))))))))))))))))))))))) (fun h => (Or.elim h (fun h => (Or.inr (Or.inr (Or.inr (Or.inr (Or.inr (Or.inr (Or.inr (Or.inr (Or.inr (Or.inr (Or.inr (Or.inr (Or.inr (Or.inr (Or.inr (Or.inr (Or.inr (Or.inr (Or.inr (Or.inr (Or.inr (Or.inr (Or.inr (Or.inr (Or.inr (Or.inr (Or.inr (Or.inr (Or.inr (Or.inr (Or.inr (Or.inr (Or.inr (Or.inr (Or.inr (Or.inr (Or.inr (Or.inr (Or.inr (Or.inr (Or.inr (Or.inr (Or.inr (Or.inr (Or.inr (Or.inr (Or.inr (Or.inr (Or.inr (Or.inr (Or.inr (Or.inr (Or.inr (Or.inr (Or.inr (Or.inr (Or.inr (Or.inl ⟨h.1, h.2.1, h.2.2⟩))))))))))))))))))))))))))))))))))))))))))))))))))))))))))) (fun h => (Or.elim h (fun h => (Or.inr (Or.inr (Or.inr (Or.inr (Or.inr (Or.inr (Or.inr (Or.inr (Or.inr (Or.inr (Or.inr (Or.inr (Or.inr (Or.inr (Or.inr (Or.inr (Or.inr (Or.inr (Or.inr (Or.inr (Or.inr (Or.inr (Or.inr (Or.inr (Or.inr (Or.inr (Or.inr (Or.inr (Or.inr (Or.inr (Or.inr (Or.inr (Or.inr (Or.inr (Or.inr (Or.inr (Or.inr (Or.inr (Or.inr (Or.inr (Or.inr (Or.inr (Or.inr (Or.inr (Or.inr (Or.inr (Or.inr (Or.inr (Or.inr (Or.inr (Or.inr (Or.inr (Or.inr (Or.inr (Or.inr (Or.inr (Or.inr (Or.inr (Or.inl ⟨h.1, h.2.1, h.2.2⟩)))))))))))))))))))))))))))))))))))))))))))))))))))))))))))) (fun h => (Or.elim h (fun h => (Or.inr (Or.inr (Or.inr (Or.inr (Or.inr (Or.inr (Or.inr (Or.inr (Or.inr (Or.inr (Or.inr (Or.inr (Or.inr (Or.inr (Or.inr (Or.inr (Or.inr (Or.inr (Or.inr (Or.inr (Or.inr (Or.inr (Or.inr (Or.inr (Or.inr (Or.inr (Or.inr (Or.inr (Or.inr (Or.inr (Or.inr (Or.inr (Or.inr (Or.inr (Or.inr (Or.inr (Or.inr (Or.inr (Or.inr (Or.inr (Or.inr (Or.inr (Or.inr (Or.inr (Or.inr (Or.inr (Or.inr (Or.inr (Or.inr (Or.inr (Or.inr (Or.inr (Or.inr (Or.inr (Or.inr (Or.inr (Or.inr (Or.inr (Or.inr (Or.inl ⟨h.1, h.2.1, h.2.2⟩))))))))))))))))))))))))))))))))))))))))))))))))))))))))))))) (fun h => (Or.elim h (fun h => (Or.inr (Or.inr (Or.inr (Or.inr (Or.inr (Or.inr (Or.inr (Or.inr (Or.inr (Or.inr (Or.inr (Or.inr (Or.inr (Or.inr (Or.inr (Or.inr (Or.inr (Or.inr (Or.inr (Or.inr (Or.inr (Or.inr (Or.inr (Or.inr (Or.inr (Or.inr (Or.inr (Or.inr (Or.inr (Or.inr (Or.inr (Or.inr (Or.inr (Or.inr (Or.inr (Or.inr (Or.inr (Or.inr (Or.inr (Or.inr (Or.inr (Or.inr (Or.inr (Or.inr (Or.inr (Or.inr (Or.inr (Or.inr (Or.inr (Or.inr (Or.inr (Or.inr (Or.inr (Or.inr (Or.inr (Or.inr (Or.inr (Or.inr (Or.inr (Or.inr (Or.inl ⟨h.1, h.2.1, h.2.2⟩)))))))))))))))))))))))))))))))))))))))))))))))))))))))))))))) (fun h => (Or.elim h (fun h => (Or.inr (Or.inr (Or.inr (Or.inr (Or.inr (Or.inr (Or.inr (Or.inr (Or.inr (Or.inr (Or.inr (Or.inr (Or.inr (Or.inr (Or.inr (Or.inr (Or.inr (Or.inr (Or.inr (Or.inr (Or.inr (Or.inr (Or.inr (Or.inr (Or.inr (Or.inr (Or.inr (Or.inr (Or.inr (Or.inr (Or.inr (Or.inr (Or.inr (Or.inr (Or.inr (Or.inr (Or.inr (Or.inr (Or.inr (Or.inr (Or.inr (Or.inr (Or.inr (Or.inr (Or.inr (Or.inr (Or.inr (Or.inr (Or.inr (Or.inr (Or.inr (Or.inr (Or.inr (Or.inr (Or.inr (Or.inr (Or.inr (Or.inr (Or.inr (Or.inr (Or.inr (Or.inl ⟨h.1, h.2.1, h.2.2.1, h.2.2.2⟩))))))))))))))))))))))))))))))))))))))))))))))))))))))))))))))) (fun h => (Or.elim h (fun h => (Or.inr (Or.inr (Or.inr (Or.inr (Or.inr (Or.inr (Or.inr (Or.inr (Or.inr (Or.inr (Or.inr (Or.inr (Or.inr (Or.inr (Or.inr (Or.inr (Or.inr (Or.inr (Or.inr (Or.inr (Or.inr (Or.inr (Or.inr (Or.inr (Or.inr (Or.inr (Or.inr (Or.inr (Or.inr (Or.inr (Or.inr (Or.inr (Or.inr (Or.inr (Or.inr (Or.inr (Or.inr (Or.inr (Or.inr (Or.inr (Or.inr (Or.inr (Or.inr (Or.inr (Or.inr (Or.inr (Or.inr (Or.inr (Or.inr (Or.inr (Or.inr (Or.inr (Or.inr (Or.inr (Or.inr (Or.inr (Or.inr (Or.inr (Or.inr (Or.inr (Or.inr (Or.inr (Or.inl ⟨h.1, h.2.1, h.2.2⟩)))))))))))))))))))))))))))))))))))))))))))))))))))))))))))))))) (fun h => (Or.elim h (fun h => (Or.inr (Or.inr (Or.inr (Or.inr (Or.inr (Or.inr (Or.inr (Or.inr (Or.inr (Or.inr (Or.inr (Or.inr (Or.inr (Or.inr (Or.inr (Or.inr (Or.inr (Or.inr (Or.inr (Or.inr (Or.inr (Or.inr (Or.inr (Or.inr (Or.inr (Or.inr (Or.inr (Or.inr (Or.inr (Or.inr (Or.inr (Or.inr (Or.inr (Or.inr (Or.inr (Or.inr (Or.inr (Or.inr (Or.inr (Or.inr (Or.inr (Or.inr (Or.inr (Or.inr (Or.inr (Or.inr (Or.inr (Or.inr (Or.inr (Or.inr (Or.inr (Or.inr (Or.inr (Or.inr (Or.inr (Or.inr (Or.inr (Or.inr (Or.inr (Or.inr (Or.inr (Or.inr (Or.inr (Or.inl ⟨h.1, h.2.1, h.2.2⟩))))))))))))))))))))))))))))))))))))))))))))))))))))))))))))))))) (fun h => (Or.inr (Or.inr (Or.inr (Or.inr (Or.inr (Or.inr (Or.inr (Or.inr (Or.inr (Or.inr (Or.inr (Or.inr (Or.inr (Or.inr (Or.inr (Or.inr (Or.inr (Or.inr (Or.inr (Or.inr (Or.inr (Or.inr (Or.inr (Or.inr (Or.inr (Or.inr (Or.inr (Or.inr (Or.inr (Or.inr (Or.inr (Or.inr (Or.inr (Or.inr (Or.inr (Or.inr (Or.inr (Or.inr (Or.inr (Or.inr (Or.inr (Or.inr (Or.inr (Or.inr (Or.inr (Or.inr (Or.inr (Or.inr (Or.inr (Or.inr (Or.inr (Or.inr (Or.inr (Or.inr (Or.inr (Or.inr (Or.inr (Or.inr (Or.inr (Or.inr (Or.inr (Or.inr (Or.inr (Or.inr ⟨h.1, h.2⟩)))))))))))))))))))))))))))))))))))))))))))))))))))))))))))))))))))))))))))))))))))))))))))))))))))))))))))))))))))))))))))))))))) _ _ h2) (fun a9 S10 h3 => ?_)
          refine Kf.bd ((zk_I_become (r0 := (2)) (r1 := (0)) (fun g r k i h => hW g r k i (Or.elim h (fun h => (Or.inl ⟨h.1, h.2.1, h.2.2.1, h.2.2.2⟩)) (fun h => (Or.elim h (fun h => (Or.inr (Or.inl ⟨h.1, h.2.1, h.2.2.1, h.2.2.2⟩))) (fun h => (Or.elim h (fun h => (Or.inr (Or.inr (Or.inl ⟨h.1, h.2.1, h.2.2.1, h.2.2.2⟩)))) (fun h => (Or.elim h (fun h => (Or.inr (Or.inr (Or.inr (Or.inl ⟨h.1, h.2.1, h.2.2.1, h.2.2.2⟩))))) (fun h => (Or.elim h (fun h => (Or.inr (Or.inr (Or.inr (Or.inr (Or.inl ⟨h.1, h.2.1, h.2.2.1, h.2.2.2⟩)))))) (fun h => (Or.elim h (fun h => (Or.inr (Or.inr (Or.inr (Or.inr (Or.inr (Or.inl ⟨h.1, h.2.1, h.2.2.1, h.2.2.2⟩))))))) (fun h => (Or.elim h (fun h => (Or.inr (Or.inr (Or.inr (Or.inr (Or.inr (Or.inr (Or.inl ⟨h.1, h.2.1, h.2.2.1, h.2.2.2⟩)))))))) (fun h => (Or.elim h (fun h => (Or.inr (Or.inr (Or.inr (Or.inr (Or.inr (Or.inr (Or.inr (Or.inl ⟨h.1, h.2.1, h.2.2⟩))))))))) (fun h => (Or.elim h (fun h => (Or.inr (Or.inr (Or.inr (Or.inr (Or.inr (Or.inr (Or.inr (Or.inr (Or.inl ⟨h.1, h.2.1, h.2.2⟩)))))))))) (fun h => (Or.elim h (fun h => (Or.inr (Or.inr (Or.inr (Or.inr (Or.inr (Or.inr (Or.inr (Or.inr (Or.inr (Or.inl ⟨h.1, h.2.1, h.2.2⟩))))))))))) (fun h => (Or.elim h (fun h => (Or.inr (Or.inr (Or.inr (Or.inr (Or.inr (Or.inr (Or.inr (Or.inr (Or.inr (Or.inr (Or.inl ⟨h.1, h.2.1, h.2.2⟩)))))))))))) (fun h => (Or.elim h (fun h => (Or.inr (Or.inr (Or.inr (Or.inr (Or.inr (Or.inr (Or.inr (Or.inr (Or.inr (Or.inr (Or.inr (Or.inl ⟨h.1, h.2.1, h.2.2⟩))))))))))))) (fun h => (Or.elim h (fun h => (Or.inr (Or.inr (Or.inr (Or.inr (Or.inr (Or.inr (Or.inr (Or.inr (Or.inr (Or.inr (Or.inr (Or.inr (Or.inl ⟨h.1, h.2.1, h.2.2⟩)))))))))))))) (fun h => (Or.elim h (fun h => (Or.inr (Or.inr (Or.inr (Or.inr (Or.inr (Or.inr (Or.inr (Or.inr (Or.inr (Or.inr (Or.inr (Or.inr (Or.inr (Or.inl ⟨h.1, h.2.1, h.2.2⟩))))))))))))))) (fun h => (Or.elim h (fun h => (Or.inr (Or.inr (Or.inr (Or.inr (Or.inr (Or.inr (Or.inr (Or.inr (Or.inr (Or.inr (Or.inr (Or.inr (Or.inr (Or.inr (Or.inl ⟨h.1, h.2.1, h.2.2.1, h.2.2.2⟩)))))))))))))))) (fun h => (Or.elim h (fun h => (Or.inr (Or.inr (Or.inr (Or.inr (Or.inr (Or.inr (Or.inr (Or.inr (Or.inr (Or.inr (Or.inr (Or.inr (Or.inr (Or.inr (Or.inr (Or.inl ⟨h.1, h.2.1, h.2.2⟩))))))))))))))))) (fun h => (Or.elim h (fun h => (Or.inr (Or.inr (Or.inr (Or.inr (Or.inr (Or.inr (Or.inr (Or.inr (Or.inr (Or.inr (Or.inr (Or.inr (Or.inr (Or.inr (Or.inr (Or.inr (Or.inl ⟨h.1, h.2.1, h.2.2⟩)))))))))))))))))) (fun h => (Or.elim h (fun h => (Or.inr (Or.inr (Or.inr (Or.inr (Or.inr (Or.inr (Or.inr (Or.inr (Or.inr (Or.inr (Or.inr (Or.inr (Or.inr (Or.inr (Or.inr (Or.inr (Or.inr (Or.inl ⟨h.1, h.2.1, h.2.2⟩))))))))))))))))))) (fun h => (Or.elim h (fun h => (Or.inr (Or.inr (Or.inr (Or.inr (Or.inr (Or.inr (Or.inr (Or.inr (Or.inr (Or.inr (Or.inr (Or.inr (Or.inr (Or.inr (Or.inr (Or.inr (Or.inr (Or.inr (Or.inl ⟨h.1, h.2.1, h.2.2⟩)))))))))))))))))))) (fun h => (Or.elim h (fun h => (Or.inr (Or.inr (Or.inr (Or.inr (Or.inr (Or.inr (Or.inr (Or.inr (Or.inr (Or.inr (Or.inr (Or.inr (Or.inr (Or.inr (Or.inr (Or.inr (Or.inr (Or.inr (Or.inr (Or.inl ⟨h.1, h.2.1, h.2.2⟩))))))))))))))))))))) (fun h => (Or.elim h (fun h => (Or.inr (Or.inr (Or.inr (Or.inr (Or.inr (Or.inr (Or.inr (Or.inr (Or.inr (Or.inr (Or.inr (Or.inr (Or.inr (Or.inr (Or.inr (Or.inr (Or.inr (Or.inr (Or.inr (Or.inr (Or.inl ⟨h.1, h.2.1, h.2.2⟩)))))))))))))))))))))) (fun h => (Or.elim h (fun h => (Or.inr (Or.inr (Or.inr (Or.inr (Or.inr (Or.inr (Or.inr (Or.inr (Or.inr (Or.inr (Or.inr (Or.inr (Or.inr (Or.inr (Or.inr (Or.inr (Or.inr (Or.inr (Or.inr (Or.inr (Or.inr (Or.inl ⟨h.1, h.2.1, h.2.2⟩))))))))))))))))))))))) (fun h => (Or.elim h (fun h => (Or.inr (Or.inr (Or.inr (Or.inr (Or.inr (Or.inr (Or.inr (Or.inr (Or.inr (Or.inr (Or.inr (Or.inr (Or.inr (Or.inr (Or.inr (Or.inr (Or.inr (Or.inr (Or.inr (Or.inr (Or.inr (Or.inr (Or.inl ⟨h.1, h.2.1, h.2.2⟩)))))))))))))))))))))))) (fun h => (Or.elim h (fun h => (Or.inr (Or.inr (Or.inr (Or.inr (Or.inr (Or.inr (Or.inr (Or.inr (Or.inr (Or.inr (Or.inr (Or.inr (Or.inr (Or.inr (Or.inr (Or.inr (Or.inr (Or.inr (Or.inr (Or.inr (Or.inr (Or.inr (Or.inr (Or.inl ⟨h.1, h.2.1, h.2.2⟩))))))))))))))))))))))))) (fun h => (Or.elim h (fun h => (Or.inr (Or.inr (Or.inr (Or.inr (Or.inr (Or.inr (Or.inr (Or.inr (Or.inr (Or.inr (Or.inr (Or.inr (Or.inr (Or.inr (Or.inr (Or.inr (Or.inr (Or.inr (Or.inr (Or.inr (Or.inr (Or.inr (Or.inr (Or.inr (Or.inl ⟨h.1, h.2.1, h.2.2⟩)))))))))))))))))))))))))) (fun h => (Or.elim h (fun h => (Or.inr (Or.inr (Or.inr (Or.inr (Or.inr (Or.inr (Or.inr (Or.inr (Or.inr (Or.inr (Or.inr (Or.inr (Or.inr (Or.inr (Or.inr (Or.inr (Or.inr (Or.inr (Or.inr (Or.inr (Or.inr (Or.inr (Or.inr (Or.inr (Or.inr (Or.inl ⟨h.1, h.2.1, h.2.2.1, h.2.2.2⟩))))))))))))))))))))))))))) (fun h => (Or.elim h (fun h => (Or.inr (Or.inr (Or.inr (Or.inr (Or.inr (Or.inr (Or.inr (Or.inr (Or.inr (Or.inr (Or.inr (Or.inr (Or.inr (Or.inr (Or.inr (Or.inr (Or.inr (Or.inr (Or.inr (Or.inr (Or.inr (Or.inr (Or.inr (Or.inr (Or.inr (Or.inr (Or.inl ⟨h.1, h.2.1, h.2.2⟩)))))))))))))))))))))))))))) (fun h => (Or.elim h (fun h => (Or.inr (Or.inr (Or.inr (Or.inr (Or.inr (Or.inr (Or.inr (Or.inr (Or.inr (Or.inr (Or.inr (Or.inr (Or.inr (Or.inr (Or.inr (Or.inr (Or.inr (Or.inr (Or.inr (Or.inr (Or.inr (Or.inr (Or.inr (Or.inr (Or.inr (Or.inr (Or.inr (Or.inl ⟨h.1, h.2.1, h.2.2⟩))))))))))))))))))))))))))))) (fun h => (Or.elim h (fun h => (Or.inr (Or.inr (Or.inr (Or.inr (Or.inr (Or.inr (Or.inr (Or.inr (Or.inr (Or.inr (Or.inr (Or.inr (Or.inr (Or.inr (Or.inr (Or.inr (Or.inr (Or.inr (Or.inr (Or.inr (Or.inr (Or.inr (Or.inr (Or.inr (Or.inr (Or.inr (Or.inr (Or.inr (Or.inl ⟨h.1, h.2.1, h.2.2⟩)))))))))))))))))))))))))))))) (fun h => (Or.elim h (fun h => (Or.inr (Or.inr (Or.inr (Or.inr (Or.inr (Or.inr (Or.inr (Or.inr (Or.inr (Or.inr (Or.inr (Or.inr (Or.inr (Or.inr (Or.inr (Or.inr (Or.inr (Or.inr (Or.inr (Or.inr (Or.inr (Or.inr (Or.inr (Or.inr (Or.inr (Or.inr (Or.inr (Or.inr (Or.inr (Or.inl ⟨h.1, h.2.1, h.2.2⟩))))))))))))))))))))))))))))))) (fun h => (Or.elim h (fun h => (Or.inr (Or.inr (Or.inr (Or.inr (Or.inr (Or.inr (Or.inr (Or.inr (Or.inr (Or.inr (Or.inr (Or.inr (Or.inr (Or.inr (Or.inr (Or.inr (Or.inr (Or.inr (Or.inr (Or.inr (Or.inr (Or.inr (Or.inr (Or.inr (Or.inr (Or.inr (Or.inr (Or.inr (Or.inr (Or.inr (Or.inl ⟨h.1, h.2.1, h.2.2⟩)))))))))))))))))))))))))))))))) (fun h => (Or.elim h (fun h => (Or.inr (Or.inr (Or.inr (Or.inr (Or.inr (Or.inr (Or.inr (Or.inr (Or.inr (Or.inr (Or.inr (Or.inr (Or.inr (Or.inr (Or.inr (Or.inr (Or.inr (Or.inr (Or.inr (Or.inr (Or.inr (Or.inr (Or.inr (Or.inr (Or.inr (Or.inr (Or.inr (Or.inr (Or.inr (Or.inr (Or.inr (Or.inl ⟨h.1, h.2.1, h.2.2.1, h.2.2.2⟩))))))))))))))))))))))))))))))))) (fun h => (Or.elim h (fun h => (Or.inr (Or.inr (Or.inr (Or.inr (Or.inr (Or.inr (Or.inr (Or.inr (Or.inr (Or.inr (Or.inr (Or.inr (Or.inr (Or.inr (Or.inr (Or.inr (Or.inr (Or.inr (Or.inr (Or.inr (Or.inr (Or.inr (Or.inr (Or.inr (Or.inr (Or.inr (Or.inr (Or.inr (Or.inr (Or.inr (Or.inr (Or.inr (Or.inl ⟨h.1, h.2.1, h.2.2⟩)))))))))))))))))))))))))))))))))) (fun h => (Or.elim h (fun h => (Or.inr (Or.inr (Or.inr (Or.inr (Or.inr (Or.inr (Or.inr (Or.inr (Or.inr (Or.inr (Or.inr (Or.inr (Or.inr (Or.inr (Or.inr (Or.inr (Or.inr (Or.inr (Or.inr (Or.inr (Or.inr (Or.inr (Or.inr (Or.inr (Or.inr (Or.inr (Or.inr (Or.inr (Or.inr (Or.inr (Or.inr (Or.inr (Or.inr (Or.inl ⟨h.1, h.2.1, h.2.2⟩))))))))))))))))))))))))))))))))))) (fun h => (Or.elim h (fun h => (Or.inr (Or.inr (Or.inr (Or.inr (Or.inr (Or.inr (Or.inr (Or.inr (Or.inr (Or.inr (Or.inr (Or.inr (Or.inr (Or.inr (Or.inr (Or.inr (Or.inr (Or.inr (Or.inr (Or.inr (Or.inr (Or.inr (Or.inr (Or.inr (Or.inr (Or.inr (Or.inr (Or.inr (Or.inr (Or.inr (Or.inr (Or.inr (Or.inr (Or.inr (Or.inl ⟨h.1, h.2.1, h.2.2⟩)))))))))))))))))))))))))))))))))))) (fun h => (Or.elim h (fun h => (Or.inr (Or.inr (Or.inr (Or.inr (Or.inr (Or.inr (Or.inr (Or.inr (Or.inr (Or.inr (Or.inr (Or.inr (Or.inr (Or.inr (Or.inr (Or.inr (Or.inr (Or.inr (Or.inr (Or.inr (Or.inr (Or.inr (Or.inr (Or.inr (Or.inr (Or.inr (Or.inr (Or.inr (Or.inr (Or.inr (Or.inr (Or.inr (Or.inr (Or.inr (Or.inr (Or.inl ⟨h.1, h.2.1, h.2.2⟩))))))))))))))))))))))))))))))))))))) (fun h => (Or.elim h (fun h => (Or.inr (Or.inr (Or.inr (Or.inr (Or.inr (Or.inr (Or.inr (Or.inr (Or.inr (Or.inr (Or.inr (Or.inr (Or.inr (Or.inr (Or.inr (Or.inr (Or.inr (Or.inr (Or.inr (Or.inr (Or.inr (Or.inr (Or.inr (Or.inr (Or.inr (Or.inr (Or.inr (Or.inr (Or.inr (Or.inr (Or.inr (Or.inr (Or.inr (Or.inr (Or.inr (Or.inr (Or.inl ⟨h.1, h.2.1, h.2.2⟩)))))))))))))))))))))))))))))))))))))) (fun h => (Or.elim h (fun h => (Or.inr (Or.inr (Or.inr (Or.inr (Or.inr (Or.inr (Or.inr (Or.inr (Or.inr (Or.inr (Or.inr (Or.inr (Or.inr (Or.inr (Or.inr (Or.inr (Or.inr (Or.inr (Or.inr (Or.inr (Or.inr (Or.inr (Or.inr (Or.inr (Or.inr (Or.inr (Or.inr (Or.inr (Or.inr (Or.inr (Or.inr (Or.inr (Or.inr (Or.inr (Or.inr (Or.inr (Or.inr (Or.inl ⟨h.1, h.2.1, h.2.2⟩))))))))))))))))))))))))))))))))))))))) (fun h => (Or.elim h (fun h => (Or.inr (Or.inr (Or.inr (Or.inr (Or.inr (Or.inr (Or.inr (Or.inr (Or.inr (Or.inr (Or.inr (Or.inr (Or.inr (Or.inr (Or.inr (Or.inr (Or.inr (Or.inr (Or.inr (Or.inr (Or.inr (Or.inr (Or.inr (Or.inr (Or.inr (Or.inr (Or.inr (Or.inr (Or.inr (Or.inr (Or.inr (Or.inr (Or.inr (Or.inr (Or.inr (Or.inr (Or.inr (Or.inr (Or.inl ⟨h.1, h.2.1, h.2.2⟩)))))))))))))))))))))))))))))))))))))))) (fun h => (Or.elim h (fun h => (Or.inr (Or.inr (Or.inr (Or.inr (Or.inr (Or.inr (Or.inr (Or.inr (Or.inr (Or.inr (Or.inr (Or.inr (Or.inr (Or.inr (Or.inr (Or.inr (Or.inr (Or.inr (Or.inr (Or.inr (Or.inr (Or.inr (Or.inr (Or.inr (Or.inr (Or.inr (Or.inr (Or.inr (Or.inr (Or.inr (Or.inr (Or.inr (Or.inr (Or.inr (Or.inr (Or.inr (Or.inr (Or.inr (Or.inr (Or.inl ⟨h.1, h.2.1, h.2.2.1, h.2.2.2⟩))))))))))))))))))))))))))))))))))))))))) (fun h => (Or.elim h (fun h => (Or.inr (Or.inr (Or.inr (Or.inr (Or.inr (Or.inr (Or.inr (Or.inr (Or.inr (Or.inr (Or.inr (Or.inr (Or.inr (Or.inr (Or.inr (Or.inr (Or.inr (Or.inr (Or.inr (Or.inr (Or.inr (Or.inr (Or.inr (Or.inr (Or.inr (Or.inr (Or.inr (Or.inr (Or.inr (Or.inr (Or.inr (Or.inr (Or.inr (Or.inr (Or.inr (Or.inr (Or.inr (Or.inr (Or.inr (Or.inr (Or.inl ⟨h.1, h.2.1, h.2.2⟩)))))))))))))))))))))))))))))))))))))))))) (fun h => (Or.elim h (fun h => (Or.inr (Or.inr (Or.inr (Or.inr (Or.inr (Or.inr (Or.inr (Or.inr (Or.inr (Or.inr (Or.inr (Or.inr (Or.inr (Or.inr (Or.inr (Or.inr (Or.inr (Or.inr (Or.inr (Or.inr (Or.inr (Or.inr (Or.inr (Or.inr (Or.inr (Or.inr (Or.inr (Or.inr (Or.inr (Or.inr (Or.inr (Or.inr (Or.inr (Or.inr (Or.inr (Or.inr (Or.inr (Or.inr (Or.inr (Or.inr (Or.inr (Or.inl ⟨h.1, h.2.1, h.2.2⟩))))))))))))))))))))))))))))))))))))))))))) (fun h => (Or.elim h (fun h => (Or.inr (Or.inr (Or.inr (Or.inr (Or.inr (Or.inr (Or.inr (Or.inr (Or.inr (Or.inr (Or.inr (Or.inr (Or.inr (Or.inr (Or.inr (Or.inr (Or.inr (Or.inr (Or.inr (Or.inr (Or.inr (Or.inr (Or.inr (Or.inr (Or.inr (Or.inr (Or.inr (Or.inr (Or.inr (Or.inr (Or.inr (Or.inr (Or.inr (Or.inr (Or.inr (Or.inr (Or.inr (Or.inr (Or.inr (Or.inr (Or.inr (Or.inr (Or.inl ⟨h.1, h.2.1, h.2.2⟩)))))))))))))))))))))))))))))))))))))))))))) (fun h => (Or.elim h (fun h => (Or.inr (Or.inr (Or.inr (Or.inr (Or.inr (Or.inr (Or.inr (Or.inr (Or.inr (Or.inr (Or.inr (Or.inr (Or.inr (Or.inr (Or.inr (Or.inr (Or.inr (Or.inr (Or.inr (Or.inr (Or.inr (Or.inr (Or.inr (Or.inr (Or.inr (Or.inr (Or.inr (Or.inr (Or.inr (Or.inr (Or.inr (Or.inr (Or.inr (Or.inr (Or.inr (Or.inr (Or.inr (Or.inr (Or.inr (Or.inr (Or.inr (Or.inr (Or.inr (Or.inl ⟨h.1, h.2.1, h.2.2⟩))))))))))))))))))))))))))))))))))))))))))))) (fun h => (Or.elim h (fun h => (Or.inr (Or.inr (Or.inr (Or.inr (Or.inr (Or.inr (Or.inr (Or.inr (Or.inr (Or.inr (Or.inr (Or.inr (Or.inr (Or.inr (Or.inr (Or.inr (Or.inr (Or.inr (Or.inr (Or.inr (Or.inr (Or.inr (Or.inr (Or.inr (Or.inr (Or.inr (Or.inr (Or.inr (Or.inr (Or.inr (Or.inr (Or.inr (Or.inr (Or.inr (Or.inr (Or.inr (Or.inr (Or.inr (Or.inr (Or.inr (Or.inr (Or.inr (Or.inr (Or.inr (Or.inl ⟨h.1, h.2.1, h.2.2⟩)))))))))))))))))))))))))))))))))))))))))))))) (fun h => (Or.elim h (fun h => (Or.inr (Or.inr (Or.inr (Or.inr (Or.inr (Or.inr (Or.inr (Or.inr (Or.inr (Or.inr (Or.inr (Or.inr (Or.inr (Or.inr (Or.inr (Or.inr (Or.inr (Or.inr (Or.inr (Or.inr (Or.inr (Or.inr (Or.inr (Or.inr (Or.inr (Or.inr (Or.inr (Or.inr (Or.inr (Or.inr (Or.inr (Or.inr (Or.inr (Or.inr (Or.inr (Or.inr (Or.inr (Or.inr (Or.inr (Or.inr (Or.inr (Or.inr (Or.inr (Or.inr (Or.inr (Or.inl ⟨h.1, h.2.1, h.2.2⟩))))))))))))))))))))))))))))))))))))))))))))))) (fun h => (Or.inr (Or.inr (Or.inr (Or.inr (Or.inr (Or.inr (Or.inr (Or.inr (Or.inr (Or.inr (Or.inr (Or.inr (Or.inr (Or.inr (Or.inr (Or.inr (Or.inr (Or.inr (Or.inr (Or.inr (Or.inr (Or.inr (Or.inr (Or.inr (Or.inr (Or.inr (Or.inr (Or.inr (Or.inr (Or.inr (Or.inr (Or.inr (Or.inr (Or.inr (Or.inr (Or.inr (Or.inr (Or.inr (Or.inr (Or.inr (Or.inr (Or.inr (Or.inr (Or.inr (Or.inr (Or.inr (Or.inl ⟨h.1, h.2.1, h.2.2⟩))))))))))))))))))))))))))))))))))))))))))))))))))))))))))))))))))))))))))))))))))))))))))))))))))))))))))))))))))))))))))))))))))))))))))))) _ h3) (fun a11 S12 h4 => ?_)
          refine Kf.ck ?_
          refine Kf.put h4 (hW _ _ _ _ (Or.inr (Or.inr (Or.inr (Or.inr (Or.inr (Or.inr (Or.inr (Or.inr (Or.inr (Or.inr (Or.inr (Or.inr (Or.inr (Or.inr (Or.inr (Or.inr (Or.inr (Or.inr (Or.inr (Or.inr (Or.inr (Or.inr (Or.inr (Or.inr (Or.inr (Or.inr (Or.inr (Or.inr (Or.inr (Or.inr (Or.inl ⟨rfl, rfl, rfl⟩)))))))))))))))))))))))))))))))) (fun S14 h5 => ?_)
          refine Kf.bd ((zk_O_headsInMind (fun g r k i h => hW g r k i (Or.elim h (fun h => (Or.inl ⟨h.1, h.2.1, h.2.2.1, h.2.2.2⟩)) (fun h => (Or.elim h (fun h => (Or.inr (Or.inl ⟨h.1, h.2.1, h.2.2.1, h.2.2.2⟩))) (fun h => (Or.elim h (fun h => (Or.inr (Or.inr (Or.inl ⟨h.1, h.2.1, h.2.2.1, h.2.2.2⟩)))) (fun h => (Or.elim h (fun h => (Or.inr (Or.inr (Or.inr (Or.inl ⟨h.1, h.2.1, h.2.2.1, h.2.2.2⟩))))) (fun h => (Or.elim h (fun h => (Or.inr (Or.inr (Or.inr (Or.inr (Or.inl ⟨h.1, h.2.1, h.2.2.1, h.2.2.2⟩)))))) (fun h => (Or.elim h (fun h => (Or.inr (Or.inr (Or.inr (Or.inr (Or.inr (Or.inr (Or.inl ⟨h.1, h.2.1, h.2.2.1, h.2.2.2⟩)))))))) (fun h => (Or.elim h (fun h => (Or.inr (Or.inr (Or.inr (Or.inr (Or.inr (Or.inr (Or.inr (Or.inr (Or.inr (Or.inl ⟨h.1, h.2.1, h.2.2⟩))))))))))) (fun h => (Or.elim h (fun h => (Or.inr (Or.inr (Or.inr (Or.inr (Or.inr (Or.inr (Or.inr (Or.inr (Or.inr (Or.inr (Or.inr (Or.inl ⟨h.1, h.2.1, h.2.2⟩))))))))))))) (fun h => (Or.elim h (fun h => (Or.inr (Or.inr (Or.inr (Or.inr (Or.inr (Or.inr (Or.inr (Or.inr (Or.inr (Or.inr (Or.inr (Or.inr (Or.inl ⟨h.1, h.2.1, h.2.2⟩)))))))))))))) (fun h => (Or.elim h (fun h => (Or.inr (Or.inr (Or.inr (Or.inr (Or.inr (Or.inr (Or.inr (Or.inr (Or.inr (Or.inr (Or.inr (Or.inr (Or.inr (Or.inl ⟨h.1, h.2.1, h.2.2⟩))))))))))))))) (fun h => (Or.elim h (fun h => (Or.inr (Or.inr (Or.inr (Or.inr (Or.inr (Or.inr (Or.inr (Or.inr (Or.inr (Or.inr (Or.inr (Or.inr (Or.inr (Or.inr (Or.inr (Or.inr (Or.inr (Or.inr (Or.inl ⟨h.1, h.2.1, h.2.2⟩)))))))))))))))))))) (fun h => (Or.elim h (fun h => (Or.inr (Or.inr (Or.inr (Or.inr (Or.inr (Or.inr (Or.inr (Or.inr (Or.inr (Or.inr (Or.inr (Or.inr (Or.inr (Or.inr (Or.inr (Or.inr (Or.inr (Or.inr (Or.inr (Or.inr (Or.inr (Or.inr (Or.inr (Or.inr (Or.inr (Or.inr (Or.inr (Or.inr (Or.inr (Or.inl ⟨h.1, h.2.1, h.2.2⟩))))))))))))))))))))))))))))))) (fun h => (Or.elim h (fun h => (Or.inr (Or.inr (Or.inr (Or.inr (Or.inr (Or.inr (Or.inr (Or.inr (Or.inr (Or.inr (Or.inr (Or.inr (Or.inr (Or.inr (Or.inr (Or.inr (Or.inr (Or.inr (Or.inr (Or.inr (Or.inr (Or.inr (Or.inr (Or.inr (Or.inr (Or.inr (Or.inr (Or.inr (Or.inr (Or.inr (Or.inr (Or.inr (Or.inl ⟨h.1, h.2.1, h.2.2⟩)))))))))))))))))))))))))))))))))) (fun h => (Or.elim h (fun h => (Or.inr (Or.inr (Or.inr (Or.inr (Or.inr (Or.inr (Or.inr (Or.inr (Or.inr (Or.inr (Or.inr (Or.inr (Or.inr (Or.inr (Or.inr (Or.inr (Or.inr (Or.inr (Or.inr (Or.inr (Or.inr (Or.inr (Or.inr (Or.inr (Or.inr (Or.inr (Or.inr (Or.inr (Or.inr (Or.inr (Or.inr (Or.inr (Or.inr (Or.inr (Or.inr (Or.inr (Or.inl ⟨h.1, h.2.1, h.2.2⟩)))))))))))))))))))))))))))))))))))))) (fun h => (Or.elim h (fun h => (Or.inr (Or.inr (Or.inr (Or.inr (Or.inr (Or.inr (Or.inr (Or.inr (Or.inr (Or.inr (Or.inr (Or.inr (Or.inr (Or.inr (Or.inr (Or.inr (Or.inr (Or.inr (Or.inr (Or.inr (Or.inr (Or.inr (Or.inr (Or.inr (Or.inr (Or.inr (Or.inr (Or.inr (Or.inr (Or.inr (Or.inr (Or.inr (Or.inr (Or.inr (Or.inr (Or.inr (Or.inr (Or.inr (Or.inl ⟨h.1, h.2.1, h.2.2⟩)))))))))))))))))))))))))))))))))))))))) (fun h => (Or.elim h (fun h => (Or.inr (Or.inr (Or.inr (Or.inr (Or.inr (Or.inr (Or.inr (Or.inr (Or.inr (Or.inr (Or.inr (Or.inr (Or.inr (Or.inr (Or.inr (Or.inr (Or.inr (Or.inr (Or.inr (Or.inr (Or.inr (Or.inr (Or.inr (Or.inr (Or.inr (Or.inr (Or.inr (Or.inr (Or.inr (Or.inr (Or.inr (Or.inr (Or.inr (Or.inr (Or.inr (Or.inr (Or.inr (Or.inr (Or.inr (Or.inr (Or.inr (Or.inr (Or.inr (Or.inr (Or.inr (Or.inr (Or.inr (Or.inl ⟨h.1, h.2.1, h.2.2⟩))))))))))))))))))))))))))))))))))))))))))))))))) (fun h => (Or.elim h (fun h => (Or.inr (Or.inr (Or.inr (Or.inr (Or.inr (Or.inr (Or.inr (Or.inr (Or.inr (Or.inr (Or.inr (Or.inr (Or.inr (Or.inr (Or.inr (Or.inr (Or.inr (Or.inr (Or.inr (Or.inr (Or.inr (Or.inr (Or.inr (Or.inr (Or.inr (Or.inr (Or.inr (Or.inr (Or.inr (Or.inr (Or.inr (Or.inr (Or.inr (Or.inr (Or.inr (Or.inr (Or.inr (Or.inr (Or.inr (Or.inr (Or.inr (Or.inr (Or.inr (Or.inr (Or.inr (Or.inr (Or.inr (Or.inr (Or.inl ⟨h.1, h.2.1, h.2.2⟩)))))))))))))))))))))))))))))))))))))))))))))))))) (fun h => (Or.elim h (fun h => (Or.inr (Or.inr (Or.inr (Or.inr (Or.inr (Or.inr (Or.inr (Or.inr (Or.inr (Or.inr (Or.inr (Or.inr (Or.inr (Or.inr (Or.inr (Or.inr (Or.inr (Or.inr (Or.inr (Or.inr (Or.inr (Or.inr (Or.inr (Or.inr (Or.inr (Or.inr (Or.inr (Or.inr (Or.inr (Or.inr (Or.inr (Or.inr (Or.inr (Or.inr (Or.inr (Or.inr (Or.inr (Or.inr (Or.inr (Or.inr (Or.inr (Or.inr (Or.inr (Or.inr (Or.inr (Or.inr (Or.inr (Or.inr (Or.inr (Or.inl ⟨h.1, h.2.1, h.2.2⟩))))))))))))))))))))))))))))))))))))))))))))))))))) (fun h => (Or.elim h (fun h => (Or.inr (Or.inr (Or.inr (Or.inr (Or.inr (Or.inr (Or.inr (Or.inr (Or.inr (Or.inr (Or.inr (Or.inr (Or.inr (Or.inr (Or.inr (Or.inr (Or.inr (Or.inr (Or.inr (Or.inr (Or.inr (Or.inr (Or.inr (Or.inr (Or.inr (Or.inr (Or.inr (Or.inr (Or.inr (Or.inr (Or.inr (Or.inr (Or.inr (Or.inr (Or.inr (Or.inr (Or.inr (Or.inr (Or.inr (Or.inr (Or.inr (Or.inr (Or.inr (Or.inr (Or.inr (Or.inr (Or.inr (Or.inr (Or.inr (Or.inr (Or.inl ⟨h.1, h.2.1, h.2.2.1, h.2.2.2⟩)))))))))))))))))))))))))))))))))))))))))))))))))))) (fun h => (Or.elim h (fun h => (Or.inr (Or.inr (Or.inr (Or.inr (Or.inr (Or.inr (Or.inr (Or.inr (Or.inr (Or.inr (Or.inr (Or.inr (Or.inr (Or.inr (Or.inr (Or.inr (Or.inr (Or.inr (Or.inr (Or.inr (Or.inr (Or.inr (Or.inr (Or.inr (Or.inr (Or.inr (Or.inr (Or.inr (Or.inr (Or.inr (Or.inr (Or.inr (Or.inr (Or.inr (Or.inr (Or.inr (Or.inr (Or.inr (Or.inr (Or.inr (Or.inr (Or.inr (Or.inr (Or.inr (Or.inr (Or.inr (Or.inr (Or.inr (Or.inr (Or.inr (Or.inr (Or.inl ⟨h.1, h.2.1, h.2.2⟩))))))))))))))))))))))))))))))))))))))))))))))))))))) (fun h => (Or.elim h (fun h => (Or.inr (Or.inr (Or.inr (Or.inr (Or.inr (Or.inr (Or.inr (Or.inr (Or.inr (Or.inr (Or.inr (Or.inr (Or.inr (Or.inr (Or.inr (Or.inr (Or.inr (Or.inr (Or.inr (Or.inr (Or.inr (Or.inr (Or.inr (Or.inr (Or.inr (Or.inr (Or.inr (Or.inr (Or.inr (Or.inr (Or.inr (Or.inr (Or.inr (Or.inr (Or.inr (Or.inr (Or.inr (Or.inr (Or.inr (Or.inr (Or.inr (Or.inr (Or.inr (Or.inr (Or.inr (Or.inr (Or.inr (Or.inr (Or.inr (Or.inr (Or.inr (Or.inr (Or.inl ⟨h.1, h.2.1, h.2.2⟩)))))))))))))))))))))))))))))))))))))))))))))))))))))) (fun h => (Or.elim h (fun h => (Or.inr (Or.inr (Or.inr (Or.inr (Or.inr (Or.inr (Or.inr (Or.inr (Or.inr (Or.inr (Or.inr (Or.inr (Or.inr (Or.inr (Or.inr (Or.inr (Or.inr (Or.inr (Or.inr (Or.inr (Or.inr (Or.inr (Or.inr (Or.inr (Or.inr (Or.inr (Or.inr (Or.inr (Or.inr (Or.inr (Or.inr (Or.inr (Or.inr (Or.inr (Or.inr (Or.inr (Or.inr (Or.inr (Or.inr (Or.inr (Or.inr (Or.inr (Or.inr (Or.inr (Or.inr (Or.inr (Or.inr (Or.inr (Or.inr (Or.inr (Or.inr (Or.inr (Or.inr (Or.inl ⟨h.1, h.2.1, h.2.2⟩))))))))))))))))))))))))))))))))))))))))))))))))))))))) (fun h => (Or.elim h (fun h => (Or.inr (Or.inr (Or.inr (Or.inr (Or.inr (Or.inr (Or.inr (Or.inr (Or.inr (Or.inr (Or.inr (Or.inr (Or.inr (Or.inr (Or.inr (Or.inr (Or.inr (Or.inr (Or.inr (Or.inr (Or.inr (Or.inr (Or.inr (Or.inr (Or.inr (Or.inr (Or.inr (Or.inr (Or.inr (Or.inr (Or.inr (Or.inr (Or.inr (Or.inr (Or.inr (Or.inr (Or.inr (Or.inr (Or.inr (Or.inr (Or.inr (Or.inr (Or.inr (Or.inr (Or.inr (Or.inr (Or.inr (Or.inr (Or.inr (Or.inr (Or.inr (Or.inr (Or.inr (Or.inr (Or.inl ⟨h.1, h.2.1, h.2.2⟩)))))))))))))))))))))))))))))))))))))))))))))))))))))))) (fun h => (Or.elim h (fun h => (Or.inr (Or.inr (Or.inr (Or.inr (Or.inr (Or.inr (Or.inr (Or.inr (Or.inr (Or.inr (Or.inr (Or.inr (Or.inr (Or.inr (Or.inr (Or.inr (Or.inr (Or.inr (Or.inr (Or.inr (Or.inr (Or.inr (Or.inr (Or.inr (Or.inr (Or.inr (Or.inr (Or.inr (Or.inr (Or.inr (Or.inr (Or.inr (Or.inr (Or.inr (Or.inr (Or.inr (Or.inr (Or.inr (Or.inr (Or.inr (Or.inr (Or.inr (Or.inr (Or.inr (Or.inr (Or.inr (Or.inr (Or.inr (Or.inr (Or.inr (Or.inr (Or.inr (Or.inr (Or.inr (Or.inr (Or.inl ⟨h.1, h.2.1, h.2.2.1, h.2.2.2⟩))))))))))))))))))))))))))))))))))))))))))))))))))))))))) (fun h => (Or.elim h (fun h => (Or.inr (Or.inr (Or.inr (Or.inr (Or.inr (Or.inr (Or.inr (Or.inr (Or.inr (Or.inr (Or.inr (Or.inr (Or.inr (Or.inr (Or.inr (Or.inr (Or.inr (Or.inr (Or.inr (Or.inr (Or.inr (Or.inr (Or.inr (Or.inr (Or.inr (Or.inr (Or.inr (Or.inr (Or.inr (Or.inr (Or.inr (Or.inr (Or.inr (Or.inr (Or.inr (Or.inr (Or.inr (Or.inr (Or.inr (Or.inr (Or.inr (Or.inr (Or.inr (Or.inr (Or.inr (Or.inr (Or.inr (Or.inr (Or.inr (Or.inr (Or.inr (Or.inr (Or.inr (Or.inr (Or.inr (Or.inr (Or.inl ⟨h.1, h.2.1, h.2.2⟩)))))))))))))))))))))))))))))))))))))))))))))))))))))))))) (fun h => (Or.elim h (fun h => (Or.inr (Or.inr (Or.inr (Or.inr (Or.inr (Or.inr (Or.inr (Or.inr (Or.inr (Or.inr (Or.inr (Or.inr (Or.inr (Or.inr (Or.inr (Or.inr (Or.inr (Or.inr (Or.inr (Or.inr (Or.inr (Or.inr (Or.inr (Or.inr (Or.inr (Or.inr (Or.inr (Or.inr (Or.inr (Or.inr (Or.inr (Or.inr (Or.inr (Or.inr (Or.inr (Or.inr (Or.inr (Or.inr (Or.inr (Or.inr (Or.inr (Or.inr (Or.inr (Or.inr (Or.inr (Or.inr (Or.inr (Or.inr (Or.inr (Or.inr (Or.inr (Or.inr (Or.inr (Or.inr (Or.inr (Or.inr (Or.inr (Or.inl ⟨h.1, h.2.1, h.2.2⟩))))))))))))))))))))))))))))))))))))))))))))))))))))))))))) (fun h => (Or.elim h (fun h => (Or.inr (Or.inr (Or.inr (Or.inr (Or.inr (Or.inr (Or.inr (Or.inr (Or.inr (Or.inr (Or.inr (Or.inr (Or.inr (Or.inr (Or.inr (Or.inr (Or.inr (Or.inr (Or.inr (Or.inr (Or.inr (Or.inr (Or.inr (Or.inr (Or.inr (Or.inr (Or.inr (Or.inr (Or.inr (Or.inr (Or.inr (Or.inr (Or.inr (Or.inr (Or.inr (Or.inr (Or.inr (Or.inr (Or.inr (Or.inr (Or.inr (Or.inr (Or.inr (Or.inr (Or.inr (Or.inr (Or.inr (Or.inr (Or.inr (Or.inr (Or.inr (Or.inr (Or.inr (Or.inr (Or.inr (Or.inr (Or.inr (Or.inr (Or.inl ⟨h.1, h.2.1, h.2.2⟩)))))))))))))))))))))))))))))))))))))))))))))))))))))))))))) (fun h => (Or.elim h (fun h => (Or.inr (Or.inr (Or.inr (Or.inr (Or.inr (Or.inr (Or.inr (Or.inr (Or.inr (Or.inr (Or.inr (Or.inr (Or.inr (Or.inr (Or.inr (Or.inr (Or.inr (Or.inr (Or.inr (Or.inr (Or.inr (Or.inr (Or.inr (Or.inr (Or.inr (Or.inr (Or.inr (Or.inr (Or.inr (Or.inr (Or.inr (Or.inr (Or.inr (Or.inr (Or.inr (Or.inr (Or.inr (Or.inr (Or.inr (Or.inr (Or.inr (Or.inr (Or.inr (Or.inr (Or.inr (Or.inr (Or.inr (Or.inr (Or.inr (Or.inr (Or.inr (Or.inr (Or.inr (Or.inr (Or.inr (Or.inr (Or.inr (Or.inr (Or.inr (Or.inl ⟨h.1, h.2.1, h.2.2⟩))))))))))))))))))))))))))))))))))))))))))))))))))))))))))))) (fun h => (Or.elim h (fun h => (Or.inr (Or.inr (Or.inr (Or.inr (Or.inr (Or.inr (Or.inr (Or.inr (Or.inr (Or.inr (Or.inr (Or.inr (Or.inr (Or.inr (Or.inr (Or.inr (Or.inr (Or.inr (Or.inr (Or.inr (Or.inr (Or.inr (Or.inr (Or.inr (Or.inr (Or.inr (Or.inr (Or.inr (Or.inr (Or.inr (Or.inr (Or.inr (Or.inr (Or.inr (Or.inr (Or.inr (Or.inr (Or.inr (Or.inr (Or.inr (Or.inr (Or.inr (Or.inr (Or.inr (Or.inr (Or.inr (Or.inr (Or.inr (Or.inr (Or.inr (Or.inr (Or.inr (Or.inr (Or.inr (Or.inr (Or.inr (Or.inr (Or.inr (Or.inr (Or.inr (Or.inl ⟨h.1, h.2.1, h.2.2⟩)))))))))))))))))))))))))))))))))))))))))))))))))))))))))))))) (fun h => (Or.elim h (fun h => (Or.inr (Or.inr (Or.inr (Or.inr (Or.inr (Or.inr (Or.inr (Or.inr (Or.inr (Or.inr (Or.inr (Or.inr (Or.inr (Or.inr (Or.inr (Or.inr (Or.inr (Or.inr (Or.inr (Or.inr (Or.inr (Or.inr (Or.inr (Or.inr (Or.inr (Or.inr (Or.inr (Or.inr (Or.inr (Or.inr (Or.inr (Or.inr (Or.inr (Or.inr (Or.inr (Or.inr (Or.inr (Or.inr (Or.inr (Or.inr (Or.inr (Or.inr (Or.inr (Or.inr (Or.inr (Or.inr (Or.inr (Or.inr (Or.inr (Or.inr (Or.inr (Or.inr (Or.inr (Or.inr (Or.inr (Or.inr (Or.inr (Or.inr (Or.inr (Or.inr (Or.inr (Or.inl ⟨h.1, h.2.1, h.2.2.1, h.2.2.2⟩))))))))))))))))))))))))))))))))))))))))))))))))))))))))))))))) (fun h => (Or.elim h (fun h => (Or.inr (Or.inr (Or.inr (Or.inr (Or.inr (Or.inr (Or.inr (Or.inr (Or.inr (Or.inr (Or.inr (Or.inr (Or.inr (Or.inr (Or.inr (Or.inr (Or.inr (Or.inr (Or.inr (Or.inr (Or.inr (Or.inr (Or.inr (Or.inr (Or.inr (Or.inr (Or.inr (Or.inr (Or.inr (Or.inr (Or.inr (Or.inr (Or.inr (Or.inr (Or.inr (Or.inr (Or.inr (Or.inr (Or.inr (Or.inr (Or.inr (Or.inr (Or.inr (Or.inr (Or.inr (Or.inr (Or.inr (Or.inr (Or.inr (Or.inr (Or.inr (Or.inr (Or.inr (Or.inr (Or.inr (Or.inr (Or.inr (Or.inr (Or.inr (Or.inr (Or.inr (Or.inr (Or.inl ⟨h.1, h.2.1, h.2.2⟩)))))))))))))))))))))))))))))))))))))))))))))))))))))))))))))))) (fun h => (Or.elim h (fun h => (Or.inr (Or.inr (Or.inr (Or.inr (Or.inr (Or.inr (Or.inr (Or.inr (Or.inr (Or.inr (Or.inr (Or.inr (Or.inr (Or.inr (Or.inr (Or.inr (Or.inr (Or.inr (Or.inr (Or.inr (Or.inr (Or.inr (Or.inr (Or.inr (Or.inr (Or.inr (Or.inr (Or.inr (Or.inr (Or.inr (Or.inr (Or.inr (Or.inr (Or.inr (Or.inr (Or.inr (Or.inr (Or.inr (Or.inr (Or.inr (Or.inr (Or.inr (Or.inr (Or.inr (Or.inr (Or.inr (Or.inr (Or.inr (Or.inr (Or.inr (Or.inr (Or.inr (Or.inr (Or.inr (Or.inr (Or.inr (Or.inr (Or.inr (Or.inr (Or.inr (Or.inr (Or.inr (Or.inr (Or.inl ⟨h.1, h.2.1, h.2.2⟩))))))))))))))))))))))))))))))))))))))))))))))))))))))))))))))))) (fun h => (Or.inr (Or.inr (Or.inr (Or.inr (Or.inr (Or.inr (Or.inr (Or.inr (Or.inr (Or.inr (Or.inr (Or.inr (Or.inr (Or.inr (Or.inr (Or.inr (Or.inr (Or.inr (Or.inr (Or.inr (Or.inr (Or.inr (Or.inr (Or.inr (Or.inr (Or.inr (Or.inr (Or.inr (Or.inr (Or.inr (Or.inr (Or.inr (Or.inr (Or.inr (Or.inr (Or.inr (Or.inr (Or.inr (Or.inr (Or.inr (Or.inr (Or.inr (Or.inr (Or.inr (Or.inr (Or.inr (Or.inr (Or.inr (Or.inr (Or.inr (Or.inr (Or.inr (Or.inr (Or.inr (Or.inr (Or.inr (Or.inr (Or.inr (Or.inr (Or.inr (Or.inr (Or.inr (Or.inr (Or.inr ⟨h.1, h.2⟩)))))))))))))))))))))))))))))))))))))))))))))))))))))))))))))))))))))))))))))))))))))))))))))))))))))))))))))))))))))))))))))))))) _ _ h5) (fun a15 S16 h6 => ?_)
          exact Kf.some h6
        · skip
          exact Kf.some h1
      · skip
        exact Kf.some h1
