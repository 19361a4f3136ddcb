/-! ===== what a function may change, 3 ===== -/
def zr_O_lackInMind (g : Nat) (r k i : Int) : Prop := (g = 0 ∧ r = 2 ∧ k = 0 ∧ i = 0) ∨ (g = 0 ∧ r = 2 ∧ k = 0 ∧ i = 1) ∨ (g = 0 ∧ r = 2 ∧ k = 0 ∧ i = 2) ∨ (g = 0 ∧ r = 2 ∧ k = 0 ∧ i = 3) ∨ (g = 0 ∧ r = 2 ∧ k = 0 ∧ i = 4) ∨ (g = 0 ∧ r = 2 ∧ k = 0 ∧ i = 6) ∨ (g = 0 ∧ r = 2 ∧ k = 11) ∨ (g = 0 ∧ r = 2 ∧ k = 13) ∨ (g = 0 ∧ r = 2 ∧ k = 14) ∨ (g = 0 ∧ r = 2 ∧ k = 15) ∨ (g = 0 ∧ r = 2 ∧ k = 2) ∨ (g = 0 ∧ r = 2 ∧ k = 3) ∨ (g = 0 ∧ r = 2 ∧ k = 32) ∨ (g = 0 ∧ r = 2 ∧ k = 36) ∨ (g = 0 ∧ r = 2 ∧ k = 5) ∨ (g = 20 ∧ r = 0 ∧ k = 0) ∨ (g = 20 ∧ r = 0 ∧ k = 1) ∨ (g = 20 ∧ r = 0 ∧ k = 2) ∨ (g = 3 ∧ r = 0 ∧ k = 10 ∧ i = 5) ∨ (g = 3 ∧ r = 0 ∧ k = 11) ∨ (g = 3 ∧ r = 0 ∧ k = 12) ∨ (g = 3 ∧ r = 0 ∧ k = 13) ∨ (g = 3 ∧ r = 0 ∧ k = 14) ∨ (g = 3 ∧ r = 0 ∧ k = 15 ∧ i = 7) ∨ (g = 3 ∧ r = 0 ∧ k = 16) ∨ (g = 3 ∧ r = 0 ∧ k = 17) ∨ (g = 3 ∧ r = 0 ∧ k = 18) ∨ (g = 3 ∧ r = 0 ∧ k = 19) ∨ (g = 3 ∧ r = 0 ∧ k = 20) ∨ (g = 3 ∧ r = 0 ∧ k = 7 ∧ i = 2) ∨ (g = 3 ∧ r = 0 ∧ k = 8) ∨ (g = 3 ∧ r = 0 ∧ k = 9) ∨ (g = 4 ∧ k = 0)
theorem zk_O_lackInMind_2 {W : Nat → Int → Int → Int → Prop} {S0 : Sg} (hW : ∀ g r k i, zr_O_lackInMind g r k i → W g r k i) : ∀ (n : Nat) (x1 x2 x3 : Int) (S : Sg), Fm W S0 S → Kf W S0 (zf_O_lackInMind_2 n x1 x2 x3 S) := by
  intro n
  induction n with
  | zero => intro x1 x2 x3 S h0; exact Kf.none
  | succ n ih =>
    intro x1 x2 x3 S h0
    rw [zf_O_lackInMind_2]
    refine Kf.ite ?_ ?_
    · skip
      exact Kf.some h0
    · skip
      refine Kf.lt (fun v2 => ?_)
      refine Kf.bd ((zk_A_pass (r1 := (2)) (fun g r k i h => hW g r k i (Or.elim h (fun h => (Or.inl ⟨h.1, h.2.1, h.2.2.1, h.2.2.2⟩)) (fun h => (Or.elim h (fun h => (Or.inr (Or.inl ⟨h.1, h.2.1, h.2.2.1, h.2.2.2⟩))) (fun h => (Or.elim h (fun h => (Or.inr (Or.inr (Or.inl ⟨h.1, h.2.1, h.2.2.1, h.2.2.2⟩)))) (fun h => (Or.elim h (fun h => (Or.inr (Or.inr (Or.inr (Or.inl ⟨h.1, h.2.1, h.2.2.1, h.2.2.2⟩))))) (fun h => (Or.elim h (fun h => (Or.inr (Or.inr (Or.inr (Or.inr (Or.inl ⟨h.1, h.2.1, h.2.2.1, h.2.2.2⟩)))))) (fun h => (Or.elim h (fun h => (Or.inr (Or.inr (Or.inr (Or.inr (Or.inr (Or.inl ⟨h.1, h.2.1, h.2.2.1, h.2.2.2⟩))))))) (fun h => (Or.elim h (fun h => (Or.inr (Or.inr (Or.inr (Or.inr (Or.inr (Or.inr (Or.inl ⟨h.1, h.2.1, h.2.2⟩)))))))) (fun h => (Or.elim h (fun h => (Or.inr (Or.inr (Or.inr (Or.inr (Or.inr (Or.inr (Or.inr (Or.inl ⟨h.1, h.2.1, h.2.2⟩))))))))) (fun h => (Or.elim h (fun h => (Or.inr (Or.inr (Or.inr (Or.inr (Or.inr (Or.inr (Or.inr (Or.inr (Or.inl ⟨h.1, h.2.1, h.2.2⟩)))))))))) (fun h => (Or.elim h (fun h => (Or.inr (Or.inr (Or.inr (Or.inr (Or.inr (Or.inr (Or.inr (Or.inr (Or.inr (Or.inl ⟨h.1, h.2.1, h.2.2⟩))))))))))) (fun h => (Or.elim h (fun h => (Or.inr (Or.inr (Or.inr (Or.inr (Or.inr (Or.inr (Or.inr (Or.inr (Or.inr (Or.inr (Or.inl ⟨h.1, h.2.1, h.2.2⟩)))))))))))) (fun h => (Or.elim h (fun h => (Or.inr (Or.inr (Or.inr (Or.inr (Or.inr (Or.inr (Or.inr (Or.inr (Or.inr (Or.inr (Or.inr (Or.inl ⟨h.1, h.2.1, h.2.2⟩))))))))))))) (fun h => (Or.elim h (fun h => (Or.inr (Or.inr (Or.inr (Or.inr (Or.inr (Or.inr (Or.inr (Or.inr (Or.inr (Or.inr (Or.inr (Or.inr (Or.inl ⟨h.1, h.2.1, h.2.2⟩)))))))))))))) (fun h => (Or.elim h (fun h => (Or.inr (Or.inr (Or.inr (Or.inr (Or.inr (Or.inr (Or.inr (Or.inr (Or.inr (Or.inr (Or.inr (Or.inr (Or.inr (Or.inl ⟨h.1, h.2.1, h.2.2⟩))))))))))))))) (fun h => (Or.elim h (fun h => (Or.inr (Or.inr (Or.inr (Or.inr (Or.inr (Or.inr (Or.inr (Or.inr (Or.inr (Or.inr (Or.inr (Or.inr (Or.inr (Or.inr (Or.inl ⟨h.1, h.2.1, h.2.2⟩)))))))))))))))) (fun h => (Or.elim h (fun h => (Or.inr (Or.inr (Or.inr (Or.inr (Or.inr (Or.inr (Or.inr (Or.inr (Or.inr (Or.inr (Or.inr (Or.inr (Or.inr (Or.inr (Or.inr (Or.inl ⟨h.1, h.2.1, h.2.2⟩))))))))))))))))) (fun h => (Or.elim h (fun h => (Or.inr (Or.inr (Or.inr (Or.inr (Or.inr (Or.inr (Or.inr (Or.inr (Or.inr (Or.inr (Or.inr (Or.inr (Or.inr (Or.inr (Or.inr (Or.inr (Or.inl ⟨h.1, h.2.1, h.2.2⟩)))))))))))))))))) (fun h => (Or.elim h (fun h => (Or.inr (Or.inr (Or.inr (Or.inr (Or.inr (Or.inr (Or.inr (Or.inr (Or.inr (Or.inr (Or.inr (Or.inr (Or.inr (Or.inr (Or.inr (Or.inr (Or.inr (Or.inl ⟨h.1, h.2.1, h.2.2⟩))))))))))))))))))) (fun h => (Or.elim h (fun h => (Or.inr (Or.inr (Or.inr (Or.inr (Or.inr (Or.inr (Or.inr (Or.inr (Or.inr (Or.inr (Or.inr (Or.inr (Or.inr (Or.inr (Or.inr (Or.inr (Or.inr (Or.inr (Or.inl ⟨h.1, h.2.1, h.2.2.1, h.2.2.2⟩)))))))))))))))))))) (fun h => (Or.elim h (fun h => (Or.inr (Or.inr (Or.inr (Or.inr (Or.inr (Or.inr (Or.inr (Or.inr (Or.inr (Or.inr (Or.inr (Or.inr (Or.inr (Or.inr (Or.inr (Or.inr (Or.inr (Or.inr (Or.inr (Or.inl ⟨h.1, h.2.1, h.2.2⟩))))))))))))))))))))) (fun h => (Or.elim h (fun h => (Or.inr (Or.inr (Or.inr (Or.inr (Or.inr (Or.inr (Or.inr (Or.inr (Or.inr (Or.inr (Or.inr (Or.inr (Or.inr (Or.inr (Or.inr (Or.inr (Or.inr (Or.inr (Or.inr (Or.inr (Or.inl ⟨h.1, h.2.1, h.2.2⟩)))))))))))))))))))))) (fun h => (Or.elim h (fun h => (Or.inr (Or.inr (Or.inr (Or.inr (Or.inr (Or.inr (Or.inr (Or.inr (Or.inr (Or.inr (Or.inr (Or.inr (Or.inr (Or.inr (Or.inr (Or.inr (Or.inr (Or.inr (Or.inr (Or.inr (Or.inr (Or.inl ⟨h.1, h.2.1, h.2.2⟩))))))))))))))))))))))) (fun h => (Or.elim h (fun h => (Or.inr (Or.inr (Or.inr (Or.inr (Or.inr (Or.inr (Or.inr (Or.inr (Or.inr (Or.inr (Or.inr (Or.inr (Or.inr (Or.inr (Or.inr (Or.inr (Or.inr (Or.inr (Or.inr (Or.inr (Or.inr (Or.inr (Or.inl ⟨h.1, h.2.1, h.2.2⟩)))))))))))))))))))))))) (fun h => (Or.elim h (fun h => (Or.inr (Or.inr (Or.inr (Or.inr (Or.inr (Or.inr (Or.inr (Or.inr (Or.inr (Or.inr (Or.inr (Or.inr (Or.inr (Or.inr (Or.inr (Or.inr (Or.inr (Or.inr (Or.inr (Or.inr (Or.inr (Or.inr (Or.inr (Or.inl ⟨h.1, h.2.1, h.2.2.1, h.2.2.2⟩))))))))))))))))))))))))) (fun h => (Or.elim h (fun h => (Or.inr (Or.inr (Or.inr (Or.inr (Or.inr (Or.inr (Or.inr (Or.inr (Or.inr (Or.inr (Or.inr (Or.inr (Or.inr (Or.inr (Or.inr (Or.inr (Or.inr (Or.inr (Or.inr (Or.inr (Or.inr (Or.inr (Or.inr (Or.inr (Or.inl ⟨h.1, h.2.1, h.2.2⟩)))))))))))))))))))))))))) (fun h => (Or.elim h (fun h => (Or.inr (Or.inr (Or.inr (Or.inr (Or.inr (Or.inr (Or.inr (Or.inr (Or.inr (Or.inr (Or.inr (Or.inr (Or.inr (Or.inr (Or.inr (Or.inr (Or.inr (Or.inr (Or.inr (Or.inr (Or.inr (Or.inr (Or.inr (Or.inr (Or.inr (Or.inl ⟨h.1, h.2.1, h.2.2⟩))))))))))))))))))))))))))) (fun h => (Or.elim h (fun h => (Or.inr (Or.inr (Or.inr (Or.inr (Or.inr (Or.inr (Or.inr (Or.inr (Or.inr (Or.inr (Or.inr (Or.inr (Or.inr (Or.inr (Or.inr (Or.inr (Or.inr (Or.inr (Or.inr (Or.inr (Or.inr (Or.inr (Or.inr (Or.inr (Or.inr (Or.inr (Or.inl ⟨h.1, h.2.1, h.2.2⟩)))))))))))))))))))))))))))) (fun h => (Or.elim h (fun h => (Or.inr (Or.inr (Or.inr (Or.inr (Or.inr (Or.inr (Or.inr (Or.inr (Or.inr (Or.inr (Or.inr (Or.inr (Or.inr (Or.inr (Or.inr (Or.inr (Or.inr (Or.inr (Or.inr (Or.inr (Or.inr (Or.inr (Or.inr (Or.inr (Or.inr (Or.inr (Or.inr (Or.inl ⟨h.1, h.2.1, h.2.2⟩))))))))))))))))))))))))))))) (fun h => (Or.elim h (fun h => (Or.inr (Or.inr (Or.inr (Or.inr (Or.inr (Or.inr (Or.inr (Or.inr (Or.inr (Or.inr (Or.inr (Or.inr (Or.inr (Or.inr (Or.inr (Or.inr (Or.inr (Or.inr (Or.inr (Or.inr (Or.inr (Or.inr (Or.inr (Or.inr (Or.inr (Or.inr (Or.inr (Or.inr (Or.inl ⟨h.1, h.2.1, h.2.2⟩)))))))))))))))))))))))))))))) (fun h => (Or.elim h (fun h => (Or.inr (Or.inr (Or.inr (Or.inr (Or.inr (Or.inr (Or.inr (Or.inr (Or.inr (Or.inr (Or.inr (Or.inr (Or.inr (Or.inr (Or.inr (Or.inr (Or.inr (Or.inr (Or.inr (Or.inr (Or.inr (Or.inr (Or.inr (Or.inr (Or.inr (Or.inr (Or.inr (Or.inr (Or.inr (Or.inl ⟨h.1, h.2.1, h.2.2.1, h.2.2.2⟩))))))))))))))))))))))))))))))) (fun h => (Or.elim h (fun h => (Or.inr (Or.inr (Or.inr (Or.inr (Or.inr (Or.inr (Or.inr (Or.inr (Or.inr (Or.inr (Or.inr (Or.inr (Or.inr (Or.inr (Or.inr (Or.inr (Or.inr (Or.inr (Or.inr (Or.inr (Or.inr (Or.inr (Or.inr (Or.inr (Or.inr (Or.inr (Or.inr (Or.inr (Or.inr (Or.inr (Or.inl ⟨h.1, h.2.1, h.2.2⟩)))))))))))))))))))))))))))))))) (fun h => (Or.elim h (fun h => (Or.inr (Or.inr (Or.inr (Or.inr (Or.inr (Or.inr (Or.inr (Or.inr (Or.inr (Or.inr (Or.inr (Or.inr (Or.inr (Or.inr (Or.inr (Or.inr (Or.inr (Or.inr (Or.inr (Or.inr (Or.inr (Or.inr (Or.inr (Or.inr (Or.inr (Or.inr (Or.inr (Or.inr (Or.inr (Or.inr (Or.inr (Or.inl ⟨h.1, h.2.1, h.2.2⟩))))))))))))))))))))))))))))))))) (fun h => (Or.inr (Or.inr (Or.inr (Or.inr (Or.inr (Or.inr (Or.inr (Or.inr (Or.inr (Or.inr (Or.inr (Or.inr (Or.inr (Or.inr (Or.inr (Or.inr (Or.inr (Or.inr (Or.inr (Or.inr (Or.inr (Or.inr (Or.inr (Or.inr (Or.inr (Or.inr (Or.inr (Or.inr (Or.inr (Or.inr (Or.inr (Or.inr ⟨h.1, h.2⟩)))))))))))))))))))))))))))))))))))))))))))))))))))))))))))))))))))))))))))))))))))))))))))))))))) _ h0) (fun a3 S4 h2 => ?_)
      refine Kf.ite ?_ ?_
      · skip
        refine Kf.lt (fun v6 => ?_)
        exact ih _ _ _ _ h2
      · skip
        exact Kf.some h2
theorem zk_O_lackInMind {W : Nat → Int → Int → Int → Prop} {S0 : Sg} (hW : ∀ g r k i, zr_O_lackInMind g r k i → W g r k i) : ∀ (x1 : Int) (x2 : Int) (S : Sg), Fm W S0 S → Kf W S0 (zf_O_lackInMind x1 x2 S) := by
  intro x1 x2 S h0
  unfold zf_O_lackInMind
  exact (zk_O_lackInMind_2 hW) 4096 _ _ _ _ h0
def zr_O_lack (g : Nat) (r k i : Int) : Prop := (g = 0 ∧ r = 2 ∧ k = 0 ∧ i = 0) ∨ (g = 0 ∧ r = 2 ∧ k = 0 ∧ i = 1) ∨ (g = 0 ∧ r = 2 ∧ k = 0 ∧ i = 2) ∨ (g = 0 ∧ r = 2 ∧ k = 0 ∧ i = 3) ∨ (g = 0 ∧ r = 2 ∧ k = 0 ∧ i = 4) ∨ (g = 0 ∧ r = 2 ∧ k = 0 ∧ i = 5) ∨ (g = 0 ∧ r = 2 ∧ k = 0 ∧ i = 6) ∨ (g = 0 ∧ r = 2 ∧ k = 1) ∨ (g = 0 ∧ r = 2 ∧ k = 10) ∨ (g = 0 ∧ r = 2 ∧ k = 11) ∨ (g = 0 ∧ r = 2 ∧ k = 12) ∨ (g = 0 ∧ r = 2 ∧ k = 13) ∨ (g = 0 ∧ r = 2 ∧ k = 14) ∨ (g = 0 ∧ r = 2 ∧ k = 15) ∨ (g = 0 ∧ r = 2 ∧ k = 16 ∧ i = 0) ∨ (g = 0 ∧ r = 2 ∧ k = 17) ∨ (g = 0 ∧ r = 2 ∧ k = 18) ∨ (g = 0 ∧ r = 2 ∧ k = 19) ∨ (g = 0 ∧ r = 2 ∧ k = 2) ∨ (g = 0 ∧ r = 2 ∧ k = 20) ∨ (g = 0 ∧ r = 2 ∧ k = 21) ∨ (g = 0 ∧ r = 2 ∧ k = 22) ∨ (g = 0 ∧ r = 2 ∧ k = 23) ∨ (g = 0 ∧ r = 2 ∧ k = 24) ∨ (g = 0 ∧ r = 2 ∧ k = 25) ∨ (g = 0 ∧ r = 2 ∧ k = 26 ∧ i = 0) ∨ (g = 0 ∧ r = 2 ∧ k = 27) ∨ (g = 0 ∧ r = 2 ∧ k = 28) ∨ (g = 0 ∧ r = 2 ∧ k = 29) ∨ (g = 0 ∧ r = 2 ∧ k = 3) ∨ (g = 0 ∧ r = 2 ∧ k = 30) ∨ (g = 0 ∧ r = 2 ∧ k = 31 ∧ i = 3) ∨ (g = 0 ∧ r = 2 ∧ k = 32) ∨ (g = 0 ∧ r = 2 ∧ k = 33) ∨ (g = 0 ∧ r = 2 ∧ k = 34) ∨ (g = 0 ∧ r = 2 ∧ k = 35) ∨ (g = 0 ∧ r = 2 ∧ k = 36) ∨ (g = 0 ∧ r = 2 ∧ k = 4) ∨ (g = 0 ∧ r = 2 ∧ k = 5) ∨ (g = 0 ∧ r = 2 ∧ k = 6 ∧ i = 0) ∨ (g = 0 ∧ r = 2 ∧ k = 7) ∨ (g = 0 ∧ r = 2 ∧ k = 8) ∨ (g = 0 ∧ r = 2 ∧ k = 9) ∨ (g = 13 ∧ r = 2 ∧ k = 0) ∨ (g = 13 ∧ r = 2 ∧ k = 1) ∨ (g = 14 ∧ r = 2 ∧ k = 0) ∨ (g = 14 ∧ r = 2 ∧ k = 1) ∨ (g = 20 ∧ r = 0 ∧ k = 0) ∨ (g = 20 ∧ r = 0 ∧ k = 1) ∨ (g = 20 ∧ r = 0 ∧ k = 2) ∨ (g = 3 ∧ r = 0 ∧ k = 10 ∧ i = 5) ∨ (g = 3 ∧ r = 0 ∧ k = 11) ∨ (g = 3 ∧ r = 0 ∧ k = 12) ∨ (g = 3 ∧ r = 0 ∧ k = 13) ∨ (g = 3 ∧ r = 0 ∧ k = 14) ∨ (g = 3 ∧ r = 0 ∧ k = 15 ∧ i = 7) ∨ (g = 3 ∧ r = 0 ∧ k = 16) ∨ (g = 3 ∧ r = 0 ∧ k = 17) ∨ (g = 3 ∧ r = 0 ∧ k = 18) ∨ (g = 3 ∧ r = 0 ∧ k = 19) ∨ (g = 3 ∧ r = 0 ∧ k = 20) ∨ (g = 3 ∧ r = 0 ∧ k = 7 ∧ i = 2) ∨ (g = 3 ∧ r = 0 ∧ k = 8) ∨ (g = 3 ∧ r = 0 ∧ k = 9) ∨ (g = 4 ∧ k = 0)
theorem zk_O_lack {W : Nat → Int → Int → Int → Prop} {S0 : Sg} (hW : ∀ g r k i, zr_O_lack g r k i → W g r k i) : ∀ (x1 : Int) (x2 : Int) (S : Sg), Fm W S0 S → Kf W S0 (zf_O_lack x1 x2 S) := by
  intro x1 x2 S h0
  unfold zf_O_lack
  refine Kf.bd ((zk_O_isGood (fun _ _ _ _ h => h.elim)) _ _ h0) (fun a1 S2 h1 => ?_)
  refine Kf.ite ?_ ?_
  · skip
    exact Kf.some h1
  · skip
    refine Kf.ite ?_ ?_
    · skip
      exact Kf.some h1
    · skip
      refine Kf.ite ?_ ?_
      · skip
        exact Kf.some h1
      · skip
        refine Kf.ite ?_ ?_
        · skip
          refine Kf.bd ((zk_I_become (r0 := (2)) (r1 := (0)) (fun g r k i h => hW g r k i (Or.elim h (fun h => (Or.inl ⟨h.1, h.2.1, h.2.2.1, h.2.2.2⟩)) (fun h => (Or.elim h (fun h => (Or.inr (Or.inl ⟨h.1, h.2.1, h.2.2.1, h.2.2.2⟩))) (fun h => (Or.elim h (fun h => (Or.inr (Or.inr (Or.inl ⟨h.1, h.2.1, h.2.2.1, h.2.2.2⟩)))) (fun h => (Or.elim h (fun h => (Or.inr (Or.inr (Or.inr (Or.inl ⟨h.1, h.2.1, h.2.2.1, h.2.2.2⟩))))) (fun h => (Or.elim h (fun h => (Or.inr (Or.inr (Or.inr (Or.inr (Or.inl ⟨h.1, h.2.1, h.2.2.1, h.2.2.2⟩)))))) (fun h => (Or.elim h (fun h => (Or.inr (Or.inr (Or.inr (Or.inr (Or.inr (Or.inl ⟨h.1, h.2.1, h.2.2.1, h.2.2.2⟩))))))) (fun h => (Or.elim h (fun h => (Or.inr (Or.inr (Or.inr (Or.inr (Or.inr (Or.inr (Or.inl ⟨h.1, h.2.1, h.2.2.1, h.2.2.2⟩)))))))) (fun h => (Or.elim h (fun h => (Or.inr (Or.inr (Or.inr (Or.inr (Or.inr (Or.inr (Or.inr (Or.inl ⟨h.1, h.2.1, h.2.2⟩))))))))) (fun h => (Or.elim h (fun h => (Or.inr (Or.inr (Or.inr (Or.inr (Or.inr (Or.inr (Or.inr (Or.inr (Or.inl ⟨h.1, h.2.1, h.2.2⟩)))))))))) (fun h => (Or.elim h (fun h => (Or.inr (Or.inr (Or.inr (Or.inr (Or.inr (Or.inr (Or.inr (Or.inr (Or.inr (Or.inl ⟨h.1, h.2.1, h.2.2⟩))))))))))) (fun h => (Or.elim h (fun h => (Or.inr (Or.inr (Or.inr (Or.inr (Or.inr (Or.inr (Or.inr (Or.inr (Or.inr (Or.inr (Or.inl ⟨h.1, h.2.1, h.2.2⟩)))))))))))) (fun h => (Or.elim h (fun h => (Or.inr (Or.inr (Or.inr (Or.inr (Or.inr (Or.inr (Or.inr (Or.inr (Or.inr (Or.inr (Or.inr (Or.inl ⟨h.1, h.2.1, h.2.2⟩))))))))))))) (fun h => (Or.elim h (fun h => (Or.inr (Or.inr (Or.inr (Or.inr (Or.inr (Or.inr (Or.inr (Or.inr (Or.inr (Or.inr (Or.inr (Or.inr (Or.inl ⟨h.1, h.2.1, h.2.2⟩)))))))))))))) (fun h => (Or.elim h (fun h => (Or.inr (Or.inr (Or.inr (Or.inr (Or.inr (Or.inr (Or.inr (Or.inr (Or.inr (Or.inr (Or.inr (Or.inr (Or.inr (Or.inl ⟨h.1, h.2.1, h.2.2⟩))))))))))))))) (fun h => (Or.elim h (fun h => (Or.inr (Or.inr (Or.inr (Or.inr (Or.inr (Or.inr (Or.inr (Or.inr (Or.inr (Or.inr (Or.inr (Or.inr (Or.inr (Or.inr (Or.inl ⟨h.1, h.2.1, h.2.2.1, h.2.2.2⟩)))))))))))))))) (fun h => (Or.elim h (fun h => (Or.inr (Or.inr (Or.inr (Or.inr (Or.inr (Or.inr (Or.inr (Or.inr (Or.inr (Or.inr (Or.inr (Or.inr (Or.inr (Or.inr (Or.inr (Or.inl ⟨h.1, h.2.1, h.2.2⟩))))))))))))))))) (fun h => (Or.elim h (fun h => (Or.inr (Or.inr (Or.inr (Or.inr (Or.inr (Or.inr (Or.inr (Or.inr (Or.inr (Or.inr (Or.inr (Or.inr (Or.inr (Or.inr (Or.inr (Or.inr (Or.inl ⟨h.1, h.2.1, h.2.2⟩)))))))))))))))))) (fun h => (Or.elim h (fun h => (Or.inr (Or.inr (Or.inr (Or.inr (Or.inr (Or.inr (Or.inr (Or.inr (Or.inr (Or.inr (Or.inr (Or.inr (Or.inr (Or.inr (Or.inr (Or.inr (Or.inr (Or.inl ⟨h.1, h.2.1, h.2.2⟩))))))))))))))))))) (fun h => (Or.elim h (fun h => (Or.inr (Or.inr (Or.inr (Or.inr (Or.inr (Or.inr (Or.inr (Or.inr (Or.inr (Or.inr (Or.inr (Or.inr (Or.inr (Or.inr (Or.inr (Or.inr (Or.inr (Or.inr (Or.inl ⟨h.1, h.2.1, h.2.2⟩)))))))))))))))))))) (fun h => (Or.elim h (fun h => (Or.inr (Or.inr (Or.inr (Or.inr (Or.inr (Or.inr (Or.inr (Or.inr (Or.inr (Or.inr (Or.inr (Or.inr (Or.inr (Or.inr (Or.inr (Or.inr (Or.inr (Or.inr (Or.inr (Or.inl ⟨h.1, h.2.1, h.2.2⟩))))))))))))))))))))) (fun h => (Or.elim h (fun h => (Or.inr (Or.inr (Or.inr (Or.inr (Or.inr (Or.inr (Or.inr (Or.inr (Or.inr (Or.inr (Or.inr (Or.inr (Or.inr (Or.inr (Or.inr (Or.inr (Or.inr (Or.inr (Or.inr (Or.inr (Or.inl ⟨h.1, h.2.1, h.2.2⟩)))))))))))))))))))))) (fun h => (Or.elim h (fun h => (Or.inr (Or.inr (Or.inr (Or.inr (Or.inr (Or.inr (Or.inr (Or.inr (Or.inr (Or.inr (Or.inr (Or.inr (Or.inr (Or.inr (Or.inr (Or.inr (Or.inr (Or.inr (Or.inr (Or.inr (Or.inr (Or.inl ⟨h.1, h.2.1, h.2.2⟩))))))))))))))))))))))) (fun h => (Or.elim h (fun h => (Or.inr (Or.inr (Or.inr (Or.inr (Or.inr (Or.inr (Or.inr (Or.inr (Or.inr (Or.inr (Or.inr (Or.inr (Or.inr (Or.inr (Or.inr (Or.inr (Or.inr (Or.inr (Or.inr (Or.inr (Or.inr (Or.inr (Or.inl ⟨h.1, h.2.1, h.2.2⟩)))))))))))))))))))))))) (fun h => (Or.elim h (fun h => (Or.inr (Or.inr (Or.inr (Or.inr (Or.inr (Or.inr (Or.inr (Or.inr (Or.inr (Or.inr (Or.inr (Or.inr (Or.inr (Or.inr (Or.inr (Or.inr (Or.inr (Or.inr (Or.inr (Or.inr (Or.inr (Or.inr (Or.inr (Or.inl ⟨h.1, h.2.1, h.2.2⟩))))))))))))))))))))))))) (fun h => (Or.elim h (fun h => (Or.inr (Or.inr (Or.inr (Or.inr (Or.inr (Or.inr (Or.inr (Or.inr (Or.inr (Or.inr (Or.inr (Or.inr (Or.inr (Or.inr (Or.inr (Or.inr (Or.inr (Or.inr (Or.inr (Or.inr (Or.inr (Or.inr (Or.inr (Or.inr (Or.inl ⟨h.1, h.2.1, h.2.2⟩)))))))))))))))))))))))))) (fun h => (Or.elim h (fun h => (Or.inr (Or.inr (Or.inr (Or.inr (Or.inr (Or.inr (Or.inr (Or.inr (Or.inr (Or.inr (Or.inr (Or.inr (Or.inr (Or.inr (Or.inr (Or.inr (Or.inr (Or.inr (Or.inr (Or.inr (Or.inr (Or.inr (Or.inr (Or.inr (Or.inr (Or.inl ⟨h.1, h.2.1, h.2.2.1, h.2.2.2⟩))))))))))))))))))))))))))) (fun h => (Or.elim h (fun h => (Or.inr (Or.inr (Or.inr (Or.inr (Or.inr (Or.inr (Or.inr (Or.inr (Or.inr (Or.inr (Or.inr (Or.inr (Or.inr (Or.inr (Or.inr (Or.inr (Or.inr (Or.inr (Or.inr (Or.inr (Or.inr (Or.inr (Or.inr (Or.inr (Or.inr (Or.inr (Or.inl ⟨h.1, h.2.1, h.2.2⟩)))))))))))))))))))))))))))) (fun h => (Or.elim h (fun h => (Or.inr (Or.inr (Or.inr (Or.inr (Or.inr (Or.inr (Or.inr (Or.inr (Or.inr (Or.inr (Or.inr (Or.inr (Or.inr (Or.inr (Or.inr (Or.inr (Or.inr (Or.inr (Or.inr (Or.inr (Or.inr (Or.inr (Or.inr (Or.inr (Or.inr (Or.inr (Or.inr (Or.inl ⟨h.1, h.2.1, h.2.2⟩))))))))))))))))))))))))))))) (fun h => (Or.elim h (fun h => (Or.inr (Or.inr (Or.inr (Or.inr (Or.inr (Or.inr (Or.inr (Or.inr (Or.inr (Or.inr (Or.inr (Or.inr (Or.inr (Or.inr (Or.inr (Or.inr (Or.inr (Or.inr (Or.inr (Or.inr (Or.inr (Or.inr (Or.inr (Or.inr (Or.inr (Or.inr (Or.inr (Or.inr (Or.inl ⟨h.1, h.2.1, h.2.2⟩)))))))))))))))))))))))))))))) (fun h => (Or.elim h (fun h => (Or.inr (Or.inr (Or.inr (Or.inr (Or.inr (Or.inr (Or.inr (Or.inr (Or.inr (Or.inr (Or.inr (Or.inr (Or.inr (Or.inr (Or.inr (Or.inr (Or.inr (Or.inr (Or.inr (Or.inr (Or.inr (Or.inr (Or.inr (Or.inr (Or.inr (Or.inr (Or.inr (Or.inr (Or.inr (Or.inl ⟨h.1, h.2.1, h.2.2⟩))))))))))))))))))))))))))))))) (fun h => (Or.elim h (fun h => (Or.inr (Or.inr (Or.inr (Or.inr (Or.inr (Or.inr (Or.inr (Or.inr (Or.inr (Or.inr (Or.inr (Or.inr (Or.inr (Or.inr (Or.inr (Or.inr (Or.inr (Or.inr (Or.inr (Or.inr (Or.inr (Or.inr (Or.inr (Or.inr (Or.inr (Or.inr (Or.inr (Or.inr (Or.inr (Or.inr (Or.inl ⟨h.1, h.2.1, h.2.2⟩)))))))))))))))))))))))))))))))) (fun h => (Or.elim h (fun h => (Or.inr (Or.inr (Or.inr (Or.inr (Or.inr (Or.inr (Or.inr (Or.inr (Or.inr (Or.inr (Or.inr (Or.inr (Or.inr (Or.inr (Or.inr (Or.inr (Or.inr (Or.inr (Or.inr (Or.inr (Or.inr (Or.inr (Or.inr (Or.inr (Or.inr (Or.inr (Or.inr (Or.inr (Or.inr (Or.inr (Or.inr (Or.inl ⟨h.1, h.2.1, h.2.2.1, h.2.2.2⟩))))))))))))))))))))))))))))))))) (fun h => (Or.elim h (fun h => (Or.inr (Or.inr (Or.inr (Or.inr (Or.inr (Or.inr (Or.inr (Or.inr (Or.inr (Or.inr (Or.inr (Or.inr (Or.inr (Or.inr (Or.inr (Or.inr (Or.inr (Or.inr (Or.inr (Or.inr (Or.inr (Or.inr (Or.inr (Or.inr (Or.inr (Or.inr (Or.inr (Or.inr (Or.inr (Or.inr (Or.inr (Or.inr (Or.inl ⟨h.1, h.2.1, h.2.2⟩)))))))))))))))))))))))))))))))))) (fun h => (Or.elim h (fun h => (Or.inr (Or.inr (Or.inr (Or.inr (Or.inr (Or.inr (Or.inr (Or.inr (Or.inr (Or.inr (Or.inr (Or.inr (Or.inr (Or.inr (Or.inr (Or.inr (Or.inr (Or.inr (Or.inr (Or.inr (Or.inr (Or.inr (Or.inr (Or.inr (Or.inr (Or.inr (Or.inr (Or.inr (Or.inr (Or.inr (Or.inr (Or.inr (Or.inr (Or.inl ⟨h.1, h.2.1, h.2.2⟩))))))))))))))))))))))))))))))))))) (fun h => (Or.elim h (fun h => (Or.inr (Or.inr (Or.inr (Or.inr (Or.inr (Or.inr (Or.inr (Or.inr (Or.inr (Or.inr (Or.inr (Or.inr (Or.inr (Or.inr (Or.inr (Or.inr (Or.inr (Or.inr (Or.inr (Or.inr (Or.inr (Or.inr (Or.inr (Or.inr (Or.inr (Or.inr (Or.inr (Or.inr (Or.inr (Or.inr (Or.inr (Or.inr (Or.inr (Or.inr (Or.inl ⟨h.1, h.2.1, h.2.2⟩)))))))))))))))))))))))))))))))))))) (fun h => (Or.elim h (fun h => (Or.inr (Or.inr (Or.inr (Or.inr (Or.inr (Or.inr (Or.inr (Or.inr (Or.inr (Or.inr (Or.inr (Or.inr (Or.inr (Or.inr (Or.inr (Or.inr (Or.inr (Or.inr (Or.inr (Or.inr (Or.inr (Or.inr (Or.inr (Or.inr (Or.inr (Or.inr (Or.inr (Or.inr (Or.inr (Or.inr (Or.inr (Or.inr (Or.inr (Or.inr (Or.inr (Or.inl ⟨h.1, h.2.1, h.2.2⟩))))))))))))))))))))))))))))))))))))) (fun h => (Or.elim h (fun h => (Or.inr (Or.inr (Or.inr (Or.inr (Or.inr (Or.inr (Or.inr (Or.inr (Or.inr (Or.inr (Or.inr (Or.inr (Or.inr (Or.inr (Or.inr (Or.inr (Or.inr (Or.inr (Or.inr (Or.inr (Or.inr (Or.inr (Or.inr (Or.inr (Or.inr (Or.inr (Or.inr (Or.inr (Or.inr (Or.inr (Or.inr (Or.inr (Or.inr (Or.inr (Or.inr (Or.inr (Or.inl ⟨h.1, h.2.1, h.2.2⟩)))))))))))))))))))))))))))))))))))))) (fun h => (Or.elim h (fun h => (Or.inr (Or.inr (Or.inr (Or.inr (Or.inr (Or.inr (Or.inr (Or.inr (Or.inr (Or.inr (Or.inr (Or.inr (Or.inr (Or.inr (Or.inr (Or.inr (Or.inr (Or.inr (Or.inr (Or.inr (Or.inr (Or.inr (Or.inr (Or.inr (Or.inr (Or.inr (Or.inr (Or.inr (Or.inr (Or.inr (Or.inr (Or.inr (Or.inr (Or.inr (Or.inr (Or.inr (Or.inr (Or.inl ⟨h.1, h.2.1, h.2.2⟩))))))))))))))))))))))))))))))))))))))) (fun h => (Or.elim h (fun h => (Or.inr (Or.inr (Or.inr (Or.inr (Or.inr (Or.inr (Or.inr (Or.inr (Or.inr (Or.inr (Or.inr (Or.inr (Or.inr (Or.inr (Or.inr (Or.inr (Or.inr (Or.inr (Or.inr (Or.inr (Or.inr (Or.inr (Or.inr (Or.inr (Or.inr (Or.inr (Or.inr (Or.inr (Or.inr (Or.inr (Or.inr (Or.inr (Or.inr (Or.inr (Or.inr (Or.inr (Or.inr (Or.inr (Or.inl ⟨h.1, h.2.1, h.2.2⟩)))))))))))))))))))))))))))))))))))))))) (fun h => (Or.elim h (fun h => (Or.inr (Or.inr (Or.inr (Or.inr (Or.inr (Or.inr (Or.inr (Or.inr (Or.inr (Or.inr (Or.inr (Or.inr (Or.inr (Or.inr (Or.inr (Or.inr (Or.inr (Or.inr (Or.inr (Or.inr (Or.inr (Or.inr (Or.inr (Or.inr (Or.inr (Or.inr (Or.inr (Or.inr (Or.inr (Or.inr (Or.inr (Or.inr (Or.inr (Or.inr (Or.inr (Or.inr (Or.inr (Or.inr (Or.inr (Or.inl ⟨h.1, h.2.1, h.2.2.1, h.2.2.2⟩))))))))))))))))))))))))))))))))))))))))) (fun h => (Or.elim h (fun h => (Or.inr (Or.inr (Or.inr (Or.inr (Or.inr (Or.inr (Or.inr (Or.inr (Or.inr (Or.inr (Or.inr (Or.inr (Or.inr (Or.inr (Or.inr (Or.inr (Or.inr (Or.inr (Or.inr (Or.inr (Or.inr (Or.inr (Or.inr (Or.inr (Or.inr (Or.inr (Or.inr (Or.inr (Or.inr (Or.inr (Or.inr (Or.inr (Or.inr (Or.inr (Or.inr (Or.inr (Or.inr (Or.inr (Or.inr (Or.inr (Or.inl ⟨h.1, h.2.1, h.2.2⟩)))))))))))))))))))))))))))))))))))))))))) (fun h => (Or.elim h (fun h => (Or.inr (Or.inr (Or.inr (Or.inr (Or.inr (Or.inr (Or.inr (Or.inr (Or.inr (Or.inr (Or.inr (Or.inr (Or.inr (Or.inr (Or.inr (Or.inr (Or.inr (Or.inr (Or.inr (Or.inr (Or.inr (Or.inr (Or.inr (Or.inr (Or.inr (Or.inr (Or.inr (Or.inr (Or.inr (Or.inr (Or.inr (Or.inr (Or.inr (Or.inr (Or.inr (Or.inr (Or.inr (Or.inr (Or.inr (Or.inr (Or.inr (Or.inl ⟨h.1, h.2.1, h.2.2⟩))))))))))))))))))))))))))))))))))))))))))) (fun h => (Or.elim h (fun h => (Or.inr (Or.inr (Or.inr (Or.inr (Or.inr (Or.inr (Or.inr (Or.inr (Or.inr (Or.inr (Or.inr (Or.inr (Or.inr (Or.inr (Or.inr (Or.inr (Or.inr (Or.inr (Or.inr (Or.inr (Or.inr (Or.inr (Or.inr (Or.inr (Or.inr (Or.inr (Or.inr (Or.inr (Or.inr (Or.inr (Or.inr (Or.inr (Or.inr (Or.inr (Or.inr (Or.inr (Or.inr (Or.inr (Or.inr (Or.inr (Or.inr (Or.inr (Or.inl ⟨h.1, h.2.1, h.2.2⟩)))))))))))))))))))))))))))))))))))))))))))) (fun h => (Or.elim h (fun h => (Or.inr (Or.inr (Or.inr (Or.inr (Or.inr (Or.inr (Or.inr (Or.inr (Or.inr (Or.inr (Or.inr (Or.inr (Or.inr (Or.inr (Or.inr (Or.inr (Or.inr (Or.inr (Or.inr (Or.inr (Or.inr (Or.inr (Or.inr (Or.inr (Or.inr (Or.inr (Or.inr (Or.inr (Or.inr (Or.inr (Or.inr (Or.inr (Or.inr (Or.inr (Or.inr (Or.inr (Or.inr (Or.inr (Or.inr (Or.inr (Or.inr (Or.inr (Or.inr (Or.inl ⟨h.1, h.2.1, h.2.2⟩))))))))))))))))))))))))))))))))))))))))))))) (fun h => (Or.elim h (fun h => (Or.inr (Or.inr (Or.inr (Or.inr (Or.inr (Or.inr (Or.inr (Or.inr (Or.inr (Or.inr (Or.inr (Or.inr (Or.inr (Or.inr (Or.inr (Or.inr (Or.inr (Or.inr (Or.inr (Or.inr (Or.inr (Or.inr (Or.inr (Or.inr (Or.inr (Or.inr (Or.inr (Or.inr (Or.inr (Or.inr (Or.inr (Or.inr (Or.inr (Or.inr (Or.inr (Or.inr (Or.inr (Or.inr (Or.inr (Or.inr (Or.inr (Or.inr (Or.inr (Or.inr (Or.inl ⟨h.1, h.2.1, h.2.2⟩)))))))))))))))))))))))))))))))))))))))))))))) (fun h => (Or.elim h (fun h => (Or.inr (Or.inr (Or.inr (Or.inr (Or.inr (Or.inr (Or.inr (Or.inr (Or.inr (Or.inr (Or.inr (Or.inr (Or.inr (Or.inr (Or.inr (Or.inr (Or.inr (Or.inr (Or.inr (Or.inr (Or.inr (Or.inr (Or.inr (Or.inr (Or.inr (Or.inr (Or.inr (Or.inr (Or.inr (Or.inr (Or.inr (Or.inr (Or.inr (Or.inr (Or.inr (Or.inr (Or.inr (Or.inr (Or.inr (Or.inr (Or.inr (Or.inr (Or.inr (Or.inr (Or.inr (Or.inl ⟨h.1, h.2.1, h.2.2⟩))))))))))))))))))))))))))))))))))))))))))))))) (fun h => (Or.inr (Or.inr (Or.inr (Or.inr (Or.inr (Or.inr (Or.inr (Or.inr (Or.inr (Or.inr (Or.inr (Or.inr (Or.inr (Or.inr (Or.inr (Or.inr (Or.inr (Or.inr (Or.inr (Or.inr (Or.inr (Or.inr (Or.inr (Or.inr (Or.inr (Or.inr (Or.inr (Or.inr (Or.inr (Or.inr (Or.inr (Or.inr (Or.inr (Or.inr (Or.inr (Or.inr (Or.inr (Or.inr (Or.inr (Or.inr (Or.inr (Or.inr (Or.inr (Or.inr (Or.inr (Or.inr (Or.inl ⟨h.1, h.2.1, h.2.2⟩))))))))))))))))))))))))))))))))))))))))))))))))))))))))))))))))))))))))))))))))))))))))))))))))))))))))))))))))))))))))))))))))))))))))))))) _ h1) (fun a7 S8 h2 => ?_)
          refine Kf.bd ((zk_O_lackInMind (fun g r k i h => hW g r k i (Or.elim h (fun h => (Or.inl ⟨h.1, h.2.1, h.2.2.1, h.2.2.2⟩)) (fun h => (Or.elim h (fun h => (Or.inr (Or.inl ⟨h.1, h.2.1, h.2.2.1, h.2.2.2⟩))) (fun h => (Or.elim h (fun h => (Or.inr (Or.inr (Or.inl ⟨h.1, h.2.1, h.2.2.1, h.2.2.2⟩)))) (fun h => (Or.elim h (fun h => (Or.inr (Or.inr (Or.inr (Or.inl ⟨h.1, h.2.1, h.2.2.1, h.2.2.2⟩))))) (fun h => (Or.elim h (fun h => (Or.inr (Or.inr (Or.inr (Or.inr (Or.inl ⟨h.1, h.2.1, h.2.2.1, h.2.2.2⟩)))))) (fun h => (Or.elim h (fun h => (Or.inr (Or.inr (Or.inr (Or.inr (Or.inr (Or.inr (Or.inl ⟨h.1, h.2.1, h.2.2.1, h.2.2.2⟩)))))))) (fun h => (Or.elim h (fun h => (Or.inr (Or.inr (Or.inr (Or.inr (Or.inr (Or.inr (Or.inr (Or.inr (Or.inr (Or.inl ⟨h.1, h.2.1, h.2.2⟩))))))))))) (fun h => (Or.elim h (fun h => (Or.inr (Or.inr (Or.inr (Or.inr (Or.inr (Or.inr (Or.inr (Or.inr (Or.inr (Or.inr (Or.inr (Or.inl ⟨h.1, h.2.1, h.2.2⟩))))))))))))) (fun h => (Or.elim h (fun h => (Or.inr (Or.inr (Or.inr (Or.inr (Or.inr (Or.inr (Or.inr (Or.inr (Or.inr (Or.inr (Or.inr (Or.inr (Or.inl ⟨h.1, h.2.1, h.2.2⟩)))))))))))))) (fun h => (Or.elim h (fun h => (Or.inr (Or.inr (Or.inr (Or.inr (Or.inr (Or.inr (Or.inr (Or.inr (Or.inr (Or.inr (Or.inr (Or.inr (Or.inr (Or.inl ⟨h.1, h.2.1, h.2.2⟩))))))))))))))) (fun h => (Or.elim h (fun h => (Or.inr (Or.inr (Or.inr (Or.inr (Or.inr (Or.inr (Or.inr (Or.inr (Or.inr (Or.inr (Or.inr (Or.inr (Or.inr (Or.inr (Or.inr (Or.inr (Or.inr (Or.inr (Or.inl ⟨h.1, h.2.1, h.2.2⟩)))))))))))))))))))) (fun h => (Or.elim h (fun h => (Or.inr (Or.inr (Or.inr (Or.inr (Or.inr (Or.inr (Or.inr (Or.inr (Or.inr (Or.inr (Or.inr (Or.inr (Or.inr (Or.inr (Or.inr (Or.inr (Or.inr (Or.inr (Or.inr (Or.inr (Or.inr (Or.inr (Or.inr (Or.inr (Or.inr (Or.inr (Or.inr (Or.inr (Or.inr (Or.inl ⟨h.1, h.2.1, h.2.2⟩))))))))))))))))))))))))))))))) (fun h => (Or.elim h (fun h => (Or.inr (Or.inr (Or.inr (Or.inr (Or.inr (Or.inr (Or.inr (Or.inr (Or.inr (Or.inr (Or.inr (Or.inr (Or.inr (Or.inr (Or.inr (Or.inr (Or.inr (Or.inr (Or.inr (Or.inr (Or.inr (Or.inr (Or.inr (Or.inr (Or.inr (Or.inr (Or.inr (Or.inr (Or.inr (Or.inr (Or.inr (Or.inr (Or.inl ⟨h.1, h.2.1, h.2.2⟩)))))))))))))))))))))))))))))))))) (fun h => (Or.elim h (fun h => (Or.inr (Or.inr (Or.inr (Or.inr (Or.inr (Or.inr (Or.inr (Or.inr (Or.inr (Or.inr (Or.inr (Or.inr (Or.inr (Or.inr (Or.inr (Or.inr (Or.inr (Or.inr (Or.inr (Or.inr (Or.inr (Or.inr (Or.inr (Or.inr (Or.inr (Or.inr (Or.inr (Or.inr (Or.inr (Or.inr (Or.inr (Or.inr (Or.inr (Or.inr (Or.inr (Or.inr (Or.inl ⟨h.1, h.2.1, h.2.2⟩)))))))))))))))))))))))))))))))))))))) (fun h => (Or.elim h (fun h => (Or.inr (Or.inr (Or.inr (Or.inr (Or.inr (Or.inr (Or.inr (Or.inr (Or.inr (Or.inr (Or.inr (Or.inr (Or.inr (Or.inr (Or.inr (Or.inr (Or.inr (Or.inr (Or.inr (Or.inr (Or.inr (Or.inr (Or.inr (Or.inr (Or.inr (Or.inr (Or.inr (Or.inr (Or.inr (Or.inr (Or.inr (Or.inr (Or.inr (Or.inr (Or.inr (Or.inr (Or.inr (Or.inr (Or.inl ⟨h.1, h.2.1, h.2.2⟩)))))))))))))))))))))))))))))))))))))))) (fun h => (Or.elim h (fun h => (Or.inr (Or.inr (Or.inr (Or.inr (Or.inr (Or.inr (Or.inr (Or.inr (Or.inr (Or.inr (Or.inr (Or.inr (Or.inr (Or.inr (Or.inr (Or.inr (Or.inr (Or.inr (Or.inr (Or.inr (Or.inr (Or.inr (Or.inr (Or.inr (Or.inr (Or.inr (Or.inr (Or.inr (Or.inr (Or.inr (Or.inr (Or.inr (Or.inr (Or.inr (Or.inr (Or.inr (Or.inr (Or.inr (Or.inr (Or.inr (Or.inr (Or.inr (Or.inr (Or.inr (Or.inr (Or.inr (Or.inr (Or.inl ⟨h.1, h.2.1, h.2.2⟩))))))))))))))))))))))))))))))))))))))))))))))))) (fun h => (Or.elim h (fun h => (Or.inr (Or.inr (Or.inr (Or.inr (Or.inr (Or.inr (Or.inr (Or.inr (Or.inr (Or.inr (Or.inr (Or.inr (Or.inr (Or.inr (Or.inr (Or.inr (Or.inr (Or.inr (Or.inr (Or.inr (Or.inr (Or.inr (Or.inr (Or.inr (Or.inr (Or.inr (Or.inr (Or.inr (Or.inr (Or.inr (Or.inr (Or.inr (Or.inr (Or.inr (Or.inr (Or.inr (Or.inr (Or.inr (Or.inr (Or.inr (Or.inr (Or.inr (Or.inr (Or.inr (Or.inr (Or.inr (Or.inr (Or.inr (Or.inl ⟨h.1, h.2.1, h.2.2⟩)))))))))))))))))))))))))))))))))))))))))))))))))) (fun h => (Or.elim h (fun h => (Or.inr (Or.inr (Or.inr (Or.inr (Or.inr (Or.inr (Or.inr (Or.inr (Or.inr (Or.inr (Or.inr (Or.inr (Or.inr (Or.inr (Or.inr (Or.inr (Or.inr (Or.inr (Or.inr (Or.inr (Or.inr (Or.inr (Or.inr (Or.inr (Or.inr (Or.inr (Or.inr (Or.inr (Or.inr (Or.inr (Or.inr (Or.inr (Or.inr (Or.inr (Or.inr (Or.inr (Or.inr (Or.inr (Or.inr (Or.inr (Or.inr (Or.inr (Or.inr (Or.inr (Or.inr (Or.inr (Or.inr (Or.inr (Or.inr (Or.inl ⟨h.1, h.2.1, h.2.2⟩))))))))))))))))))))))))))))))))))))))))))))))))))) (fun h => (Or.elim h (fun h => (Or.inr (Or.inr (Or.inr (Or.inr (Or.inr (Or.inr (Or.inr (Or.inr (Or.inr (Or.inr (Or.inr (Or.inr (Or.inr (Or.inr (Or.inr (Or.inr (Or.inr (Or.inr (Or.inr (Or.inr (Or.inr (Or.inr (Or.inr (Or.inr (Or.inr (Or.inr (Or.inr (Or.inr (Or.inr (Or.inr (Or.inr (Or.inr (Or.inr (Or.inr (Or.inr (Or.inr (Or.inr (Or.inr (Or.inr (Or.inr (Or.inr (Or.inr (Or.inr (Or.inr (Or.inr (Or.inr (Or.inr (Or.inr (Or.inr (Or.inr (Or.inl ⟨h.1, h.2.1, h.2.2.1, h.2.2.2⟩)))))))))))))))))))))))))))))))))))))))))))))))))))) (fun h => (Or.elim h (fun h => (Or.inr (Or.inr (Or.inr (Or.inr (Or.inr (Or.inr (Or.inr (Or.inr (Or.inr (Or.inr (Or.inr (Or.inr (Or.inr (Or.inr (Or.inr (Or.inr (Or.inr (Or.inr (Or.inr (Or.inr (Or.inr (Or.inr (Or.inr (Or.inr (Or.inr (Or.inr (Or.inr (Or.inr (Or.inr (Or.inr (Or.inr (Or.inr (Or.inr (Or.inr (Or.inr (Or.inr (Or.inr (Or.inr (Or.inr (Or.inr (Or.inr (Or.inr (Or.inr (Or.inr (Or.inr (Or.inr (Or.inr (Or.inr (Or.inr (Or.inr (Or.inr (Or.inl ⟨h.1, h.2.1, h.2.2⟩))))))))))))))))))))))))))))))))))))))))))))))))))))) (fun h => (Or.elim h (fun h => (Or.inr (Or.inr (Or.inr (Or.inr (Or.inr (Or.inr (Or.inr (Or.inr (Or.inr (Or.inr (Or.inr (Or.inr (Or.inr (Or.inr (Or.inr (Or.inr (Or.inr (Or.inr (Or.inr (Or.inr (Or.inr (Or.inr (Or.inr (Or.inr (Or.inr (Or.inr (Or.inr (Or.inr (Or.inr (Or.inr (Or.inr (Or.inr (Or.inr (Or.inr (Or.inr (Or.inr (Or.inr (Or.inr (Or.inr (Or.inr (Or.inr (Or.inr (Or.inr (Or.inr (Or.inr (Or.inr (Or.inr (Or.inr (Or.inr (Or.inr (Or.inr (Or.inr (Or.inl ⟨h.1, h.2.1, h.2.2⟩)))))))))))))))))))))))))))))))))))))))))))))))))))))) (fun h => (Or.elim h (fun h => (Or.inr (Or.inr (Or.inr (Or.inr (Or.inr (Or.inr (Or.inr (Or.inr (Or.inr (Or.inr (Or.inr (Or.inr (Or.inr (Or.inr (Or.inr (Or.inr (Or.inr (Or.inr (Or.inr (Or.inr (Or.inr (Or.inr (Or.inr (Or.inr (Or.inr (Or.inr (Or.inr (Or.inr (Or.inr (Or.inr (Or.inr (Or.inr (Or.inr (Or.inr (Or.inr (Or.inr (Or.inr (Or.inr (Or.inr (Or.inr (Or.inr (Or.inr (Or.inr (Or.inr (Or.inr (Or.inr (Or.inr (Or.inr (Or.inr (Or.inr (Or.inr (Or.inr (Or.inr (Or.inl ⟨h.1, h.2.1, h.2.2⟩))))))))))))))))))))))))))))))))))))))))))))))))))))))) (fun h => (Or.elim h (fun h => (Or.inr (Or.inr (Or.inr (Or.inr (Or.inr (Or.inr (Or.inr (Or.inr (Or.inr (Or.inr (Or.inr (Or.inr (Or.inr (Or.inr (Or.inr (Or.inr (Or.inr (Or.inr (Or.inr (Or.inr (Or.inr (Or.inr (Or.inr (Or.inr (Or.inr (Or.inr (Or.inr (Or.inr (Or.inr (Or.inr (Or.inr (Or.inr (Or.inr (Or.inr (Or.inr (Or.inr (Or.inr (Or.inr (Or.inr (Or.inr (Or.inr (Or.inr (Or.inr (Or.inr (Or.inr (Or.inr (Or.inr (Or.inr (Or.inr (Or.inr (Or.inr (Or.inr (Or.inr (Or.inr (Or.inl ⟨h.1, h.2.1, h.2.2⟩)))))))))))))))))))))))))))))))))))))))))))))))))))))))) (fun h => (Or.elim h (fun h => (Or.inr (Or.inr (Or.inr (Or.inr (Or.inr (Or.inr (Or.inr (Or.inr (Or.inr (Or.inr (Or.inr (Or.inr (Or.inr (Or.inr (Or.inr (Or.inr (Or.inr (Or.inr (Or.inr (Or.inr (Or.inr (Or.inr (Or.inr (Or.inr (Or.inr (Or.inr (Or.inr (Or.inr (Or.inr (Or.inr (Or.inr (Or.inr (Or.inr (Or.inr (Or.inr (Or.inr (Or.inr (Or.inr (Or.inr (Or.inr (Or.inr (Or.inr (Or.inr (Or.inr (Or.inr (Or.inr (Or.inr (Or.inr (Or.inr (Or.inr (Or.inr (Or.inr (Or.inr (Or.inr (Or.inr (Or.inl ⟨h.1, h.2.1, h.2.2.1, h.2.2.2⟩))))))))))))))))))))))))))))))))))))))))))))))))))))))))) (fun h => (Or.elim h (fun h => (Or.inr (Or.inr (Or.inr (Or.inr (Or.inr (Or.inr (Or.inr (Or.inr (Or.inr (Or.inr (Or.inr (Or.inr (Or.inr (Or.inr (Or.inr (Or.inr (Or.inr (Or.inr (Or.inr (Or.inr (Or.inr (Or.inr (Or.inr (Or.inr (Or.inr (Or.inr (Or.inr (Or.inr (Or.inr (Or.inr (Or.inr (Or.inr (Or.inr (Or.inr (Or.inr (Or.inr (Or.inr (Or.inr (Or.inr (Or.inr (Or.inr (Or.inr (Or.inr (Or.inr (Or.inr (Or.inr (Or.inr (Or.inr (Or.inr (Or.inr (Or.inr (Or.inr (Or.inr (Or.inr (Or.inr (Or.inr (Or.inl ⟨h.1, h.2.1, h.2.2⟩)))))))))))))))))))))))))))))))))))))))))))))))))))))))))) (fun h => (Or.elim h (fun h => (Or.inr (Or.inr (Or.inr (Or.inr (Or.inr (Or.inr (Or.inr (Or.inr (Or.inr (Or.inr (Or.inr (Or.inr (Or.inr (Or.inr (Or.inr (Or.inr (Or.inr (Or.inr (Or.inr (Or.inr (Or.inr (Or.inr (Or.inr (Or.inr (Or.inr (Or.inr (Or.inr (Or.inr (Or.inr (Or.inr (Or.inr (Or.inr (Or.inr (Or.inr (Or.inr (Or.inr (Or.inr (Or.inr (Or.inr (Or.inr (Or.inr (Or.inr (Or.inr (Or.inr (Or.inr (Or.inr (Or.inr (Or.inr (Or.inr (Or.inr (Or.inr (Or.inr (Or.inr (Or.inr (Or.inr (Or.inr (Or.inr (Or.inl ⟨h.1, h.2.1, h.2.2⟩))))))))))))))))))))))))))))))))))))))))))))))))))))))))))) (fun h => (Or.elim h (fun h => (Or.inr (Or.inr (Or.inr (Or.inr (Or.inr (Or.inr (Or.inr (Or.inr (Or.inr (Or.inr (Or.inr (Or.inr (Or.inr (Or.inr (Or.inr (Or.inr (Or.inr (Or.inr (Or.inr (Or.inr (Or.inr (Or.inr (Or.inr (Or.inr (Or.inr (Or.inr (Or.inr (Or.inr (Or.inr (Or.inr (Or.inr (Or.inr (Or.inr (Or.inr (Or.inr (Or.inr (Or.inr (Or.inr (Or.inr (Or.inr (Or.inr (Or.inr (Or.inr (Or.inr (Or.inr (Or.inr (Or.inr (Or.inr (Or.inr (Or.inr (Or.inr (Or.inr (Or.inr (Or.inr (Or.inr (Or.inr (Or.inr (Or.inr (Or.inl ⟨h.1, h.2.1, h.2.2⟩)))))))))))))))))))))))))))))))))))))))))))))))))))))))))))) (fun h => (Or.elim h (fun h => (Or.inr (Or.inr (Or.inr (Or.inr (Or.inr (Or.inr (Or.inr (Or.inr (Or.inr (Or.inr (Or.inr (Or.inr (Or.inr (Or.inr (Or.inr (Or.inr (Or.inr (Or.inr (Or.inr (Or.inr (Or.inr (Or.inr (Or.inr (Or.inr (Or.inr (Or.inr (Or.inr (Or.inr (Or.inr (Or.inr (Or.inr (Or.inr (Or.inr (Or.inr (Or.inr (Or.inr (Or.inr (Or.inr (Or.inr (Or.inr (Or.inr (Or.inr (Or.inr (Or.inr (Or.inr (Or.inr (Or.inr (Or.inr (Or.inr (Or.inr (Or.inr (Or.inr (Or.inr (Or.inr (Or.inr (Or.inr (Or.inr (Or.inr (Or.inr (Or.inl ⟨h.1, h.2.1, h.2.2⟩))))))))))))))))))))))))))))))))))))))))))))))))))))))))))))) (fun h => (Or.elim h (fun h => (Or.inr (Or.inr (Or.inr (Or.inr (Or.inr (Or.inr (Or.inr (Or.inr (Or.inr (Or.inr (Or.inr (Or.inr (Or.inr (Or.inr (Or.inr (Or.inr (Or.inr (Or.inr (Or.inr (Or.inr (Or.inr (Or.inr (Or.inr (Or.inr (Or.inr (Or.inr (Or.inr (Or.inr (Or.inr (Or.inr (Or.inr (Or.inr (Or.inr (Or.inr (Or.inr (Or.inr (Or.inr (Or.inr (Or.inr (Or.inr (Or.inr (Or.inr (Or.inr (Or.inr (Or.inr (Or.inr (Or.inr (Or.inr (Or.inr (Or.inr (Or.inr (Or.inr (Or.inr (Or.inr (Or.inr (Or.inr (Or.inr (Or.inr (Or.inr (Or.inr (Or.inl ⟨h.1, h.2.1, h.2.2⟩)))))))))))))))))))))))))))))))))))))))))))))))))))))))))))))) (fun h => (Or.elim h (fun h => (Or.inr (Or.inr (Or.inr (Or.inr (Or.inr (Or.inr (Or.inr (Or.inr (Or.inr (Or.inr (Or.inr (Or.inr (Or.inr (Or.inr (Or.inr (Or.inr (Or.inr (Or.inr (Or.inr (Or.inr (Or.inr (Or.inr (Or.inr (Or.inr (Or.inr (Or.inr (Or.inr (Or.inr (Or.inr (Or.inr (Or.inr (Or.inr (Or.inr (Or.inr (Or.inr (Or.inr (Or.inr (Or.inr (Or.inr (Or.inr (Or.inr (Or.inr (Or.inr (Or.inr (Or.inr (Or.inr (Or.inr (Or.inr (Or.inr (Or.inr (Or.inr (Or.inr (Or.inr (Or.inr (Or.inr (Or.inr (Or.inr (Or.inr (Or.inr (Or.inr (Or.inr (Or.inl ⟨h.1, h.2.1, h.2.2.1, h.2.2.2⟩))))))))))))))))))))))))))))))))))))))))))))))))))))))))))))))) (fun h => (Or.elim h (fun h => (Or.inr (Or.inr (Or.inr (Or.inr (Or.inr (Or.inr (Or.inr (Or.inr (Or.inr (Or.inr (Or.inr (Or.inr (Or.inr (Or.inr (Or.inr (Or.inr (Or.inr (Or.inr (Or.inr (Or.inr (Or.inr (Or.inr (Or.inr (Or.inr (Or.inr (Or.inr (Or.inr (Or.inr (Or.inr (Or.inr (Or.inr (Or.inr (Or.inr (Or.inr (Or.inr (Or.inr (Or.inr (Or.inr (Or.inr (Or.inr (Or.inr (Or.inr (Or.inr (Or.inr (Or.inr (Or.inr (Or.inr (Or.inr (Or.inr (Or.inr (Or.inr (Or.inr (Or.inr (Or.inr (Or.inr (Or.inr (Or.inr (Or.inr (Or.inr (Or.inr (Or.inr (Or.inr (Or.inl ⟨h.1, h.2.1, h.2.2⟩)))))))))))))))))))))))))))))))))))))))))))))))))))))))))))))))) (fun h => (Or.elim h (fun h => (Or.inr (Or.inr (Or.inr (Or.inr (Or.inr (Or.inr (Or.inr (Or.inr (Or.inr (Or.inr (Or.inr (Or.inr (Or.inr (Or.inr (Or.inr (Or.inr (Or.inr (Or.inr (Or.inr (Or.inr (Or.inr (Or.inr (Or.inr (Or.inr (Or.inr (Or.inr (Or.inr (Or.inr (Or.inr (Or.inr (Or.inr (Or.inr (Or.inr (Or.inr (Or.inr (Or.inr (Or.inr (Or.inr (Or.inr (Or.inr (Or.inr (Or.inr (Or.inr (Or.inr (Or.inr (Or.inr (Or.inr (Or.inr (Or.inr (Or.inr (Or.inr (Or.inr (Or.inr (Or.inr (Or.inr (Or.inr (Or.inr (Or.inr (Or.inr (Or.inr (Or.inr (Or.inr (Or.inr (Or.inl ⟨h.1, h.2.1, h.2.2⟩))))))))))))))))))))))))))))))))))))))))))))))))))))))))))))))))) (fun h => (Or.inr (Or.inr (Or.inr (Or.inr (Or.inr (Or.inr (Or.inr (Or.inr (Or.inr (Or.inr (Or.inr (Or.inr (Or.inr (Or.inr (Or.inr (Or.inr (Or.inr (Or.inr (Or.inr (Or.inr (Or.inr (Or.inr (Or.inr (Or.inr (Or.inr (Or.inr (Or.inr (Or.inr (Or.inr (Or.inr (Or.inr (Or.inr (Or.inr (Or.inr (Or.inr (Or.inr (Or.inr (Or.inr (Or.inr (Or.inr (Or.inr (Or.inr (Or.inr (Or.inr (Or.inr (Or.inr (Or.inr (Or.inr (Or.inr (Or.inr (Or.inr (Or.inr (Or.inr (Or.inr (Or.inr (Or.inr (Or.inr (Or.inr (Or.inr (Or.inr (Or.inr (Or.inr (Or.inr (Or.inr ⟨h.1, h.2⟩)))))))))))))))))))))))))))))))))))))))))))))))))))))))))))))))))))))))))))))))))))))))))))))))))))))))))))))))))))))))))))))))))) _ _ _ h2) (fun a9 S10 h3 => ?_)
          refine Kf.ite ?_ ?_
          · skip
            exact Kf.some h3
          · skip
            exact Kf.some h3
        · skip
          exact Kf.some h1
def zr_T_addTens (r0 : Int) (g : Nat) (r k i : Int) : Prop := (g = 0 ∧ r = r0 ∧ k = 31 ∧ i = 3) ∨ (g = 0 ∧ r = r0 ∧ k = 35) ∨ (g = 0 ∧ r = r0 ∧ k = 36)
theorem zk_T_addTens {W : Nat → Int → Int → Int → Prop} {S0 : Sg} {r0 : Int} (hW : ∀ g r k i, zr_T_addTens r0 g r k i → W g r k i) : ∀ (x1 : Int) (x2 : Int) (S : Sg), Fm W S0 S → Kf W S0 (zf_T_addTens r0 x1 x2 S) := by
  intro x1 x2 S h0
  unfold zf_T_addTens
  refine Kf.ite ?_ ?_
  · skip
    exact Kf.some h0
  · skip
    refine Kf.bd ((zk_T_addOrder (r0 := (r0)) (fun g r k i h => hW g r k i (Or.elim h (fun h => (Or.inl ⟨h.1, h.2.1, h.2.2.1, h.2.2.2⟩)) (fun h => (Or.elim h (fun h => (Or.inr (Or.inl ⟨h.1, h.2.1, h.2.2⟩))) (fun h => (Or.inr (Or.inr ⟨h.1, h.2.1, h.2.2⟩)))))))) _ _ _ h0) (fun a2 S3 h1 => ?_)
    exact Kf.some h1
def zr_O_plan (g : Nat) (r k i : Int) : Prop := (g = 0 ∧ r = 2 ∧ k = 0 ∧ i = 0) ∨ (g = 0 ∧ r = 2 ∧ k = 0 ∧ i = 1) ∨ (g = 0 ∧ r = 2 ∧ k = 0 ∧ i = 2) ∨ (g = 0 ∧ r = 2 ∧ k = 0 ∧ i = 3) ∨ (g = 0 ∧ r = 2 ∧ k = 0 ∧ i = 4) ∨ (g = 0 ∧ r = 2 ∧ k = 0 ∧ i = 5) ∨ (g = 0 ∧ r = 2 ∧ k = 0 ∧ i = 6) ∨ (g = 0 ∧ r = 2 ∧ k = 1) ∨ (g = 0 ∧ r = 2 ∧ k = 10) ∨ (g = 0 ∧ r = 2 ∧ k = 11) ∨ (g = 0 ∧ r = 2 ∧ k = 12) ∨ (g = 0 ∧ r = 2 ∧ k = 13) ∨ (g = 0 ∧ r = 2 ∧ k = 14) ∨ (g = 0 ∧ r = 2 ∧ k = 15) ∨ (g = 0 ∧ r = 2 ∧ k = 16 ∧ i = 0) ∨ (g = 0 ∧ r = 2 ∧ k = 17) ∨ (g = 0 ∧ r = 2 ∧ k = 18) ∨ (g = 0 ∧ r = 2 ∧ k = 19) ∨ (g = 0 ∧ r = 2 ∧ k = 2) ∨ (g = 0 ∧ r = 2 ∧ k = 20) ∨ (g = 0 ∧ r = 2 ∧ k = 21) ∨ (g = 0 ∧ r = 2 ∧ k = 22) ∨ (g = 0 ∧ r = 2 ∧ k = 23) ∨ (g = 0 ∧ r = 2 ∧ k = 24) ∨ (g = 0 ∧ r = 2 ∧ k = 25) ∨ (g = 0 ∧ r = 2 ∧ k = 26 ∧ i = 0) ∨ (g = 0 ∧ r = 2 ∧ k = 27) ∨ (g = 0 ∧ r = 2 ∧ k = 28) ∨ (g = 0 ∧ r = 2 ∧ k = 29) ∨ (g = 0 ∧ r = 2 ∧ k = 3) ∨ (g = 0 ∧ r = 2 ∧ k = 30) ∨ (g = 0 ∧ r = 2 ∧ k = 31 ∧ i = 3) ∨ (g = 0 ∧ r = 2 ∧ k = 32) ∨ (g = 0 ∧ r = 2 ∧ k = 33) ∨ (g = 0 ∧ r = 2 ∧ k = 34) ∨ (g = 0 ∧ r = 2 ∧ k = 35) ∨ (g = 0 ∧ r = 2 ∧ k = 36) ∨ (g = 0 ∧ r = 2 ∧ k = 4) ∨ (g = 0 ∧ r = 2 ∧ k = 5) ∨ (g = 0 ∧ r = 2 ∧ k = 6 ∧ i = 0) ∨ (g = 0 ∧ r = 2 ∧ k = 7) ∨ (g = 0 ∧ r = 2 ∧ k = 8) ∨ (g = 0 ∧ r = 2 ∧ k = 9) ∨ (g = 13 ∧ r = 2 ∧ k = 0) ∨ (g = 13 ∧ r = 2 ∧ k = 1) ∨ (g = 14 ∧ r = 2 ∧ k = 0) ∨ (g = 14 ∧ r = 2 ∧ k = 1) ∨ (g = 20 ∧ r = 0 ∧ k = 0) ∨ (g = 20 ∧ r = 0 ∧ k = 1) ∨ (g = 20 ∧ r = 0 ∧ k = 2) ∨ (g = 3 ∧ r = 0 ∧ k = 10 ∧ i = 5) ∨ (g = 3 ∧ r = 0 ∧ k = 11) ∨ (g = 3 ∧ r = 0 ∧ k = 12) ∨ (g = 3 ∧ r = 0 ∧ k = 13) ∨ (g = 3 ∧ r = 0 ∧ k = 14) ∨ (g = 3 ∧ r = 0 ∧ k = 15 ∧ i = 7) ∨ (g = 3 ∧ r = 0 ∧ k = 16) ∨ (g = 3 ∧ r = 0 ∧ k = 17) ∨ (g = 3 ∧ r = 0 ∧ k = 18) ∨ (g = 3 ∧ r = 0 ∧ k = 19) ∨ (g = 3 ∧ r = 0 ∧ k = 20) ∨ (g = 3 ∧ r = 0 ∧ k = 7 ∧ i = 2) ∨ (g = 3 ∧ r = 0 ∧ k = 8) ∨ (g = 3 ∧ r = 0 ∧ k = 9) ∨ (g = 4 ∧ k = 0)
theorem zk_O_plan_162 {W : Nat → Int → Int → Int → Prop} {S0 : Sg} (hW : ∀ g r k i, zr_O_plan g r k i → W g r k i) {q43 : Int → Int → Int → Sg → Option (Int × Sg)} (hq43 : ∀ (x0 x1 x2 : Int) (S : Sg), Fm W S0 S → Kf W S0 (q43 x0 x1 x2 S)) : ∀ (x1 : Int) (x2 : Int) (x3 : Int) (S : Sg), Fm W S0 S → Kf W S0 (zf_O_plan_162 q43 x1 x2 x3 S) := by
  intro x1 x2 x3 S h0
  unfold zf_O_plan_162
  refine Kf.lt (fun v1 => ?_)
  exact hq43 _ _ _ _ h0
theorem zk_O_plan_156 {W : Nat → Int → Int → Int → Prop} {S0 : Sg} (hW : ∀ g r k i, zr_O_plan g r k i → W g r k i) {q43 : Int → Int → Int → Sg → Option (Int × Sg)} (hq43 : ∀ (x0 x1 x2 : Int) (S : Sg), Fm W S0 S → Kf W S0 (q43 x0 x1 x2 S)) {q74 : Int → Int → Int → Int → Int → Sg → Option (Int × Sg)} (hq74 : ∀ (x0 x1 x2 x3 x4 : Int) (S : Sg), Fm W S0 S → Kf W S0 (q74 x0 x1 x2 x3 x4 S)) : ∀ (x1 : Int) (x2 : Int) (x3 : Int) (x4 : Int) (x5 : Int) (S : Sg), Fm W S0 S → Kf W S0 (zf_O_plan_156 q43 q74 x1 x2 x3 x4 x5 S) := by
  intro x1 x2 x3 x4 x5 S h0
  unfold zf_O_plan_156
  refine Kf.lt (fun v1 => ?_)
  exact hq74 _ _ _ _ _ _ h0
theorem zk_O_plan_74 {W : Nat → Int → Int → Int → Prop} {S0 : Sg} (hW : ∀ g r k i, zr_O_plan g r k i → W g r k i) {q43 : Int → Int → Int → Sg → Option (Int × Sg)} (hq43 : ∀ (x0 x1 x2 : Int) (S : Sg), Fm W S0 S → Kf W S0 (q43 x0 x1 x2 S)) : ∀ (n : Nat) (x1 x2 x3 x4 x5 : Int) (S : Sg), Fm W S0 S → Kf W S0 (zf_O_plan_74 q43 n x1 x2 x3 x4 x5 S) := by
  intro n
  induction n with
  | zero => intro x1 x2 x3 x4 x5 S h0; exact Kf.none
  | succ n ih =>
    intro x1 x2 x3 x4 x5 S h0
    rw [zf_O_plan_74]
    refine Kf.ite ?_ ?_
    · skip
      exact (zk_O_plan_162 hW hq43) _ _ _ _ h0
    · skip
      refine Kf.ite ?_ ?_
      · skip
        exact (zk_O_plan_162 hW hq43) _ _ _ _ h0
      · skip
        refine Kf.bd ((zk_I_become (r0 := (2)) (r1 := (0)) (fun g r k i h => hW g r k i (Or.elim h (fun h => (Or.inl ⟨h.1, h.2.1, h.2.2.1, h.2.2.2⟩)) (fun h => (Or.elim h (fun h => (Or.inr (Or.inl ⟨h.1, h.2.1, h.2.2.1, h.2.2.2⟩))) (fun h => (Or.elim h (fun h => (Or.inr (Or.inr (Or.inl ⟨h.1, h.2.1, h.2.2.1, h.2.2.2⟩)))) (fun h => (Or.elim h (fun h => (Or.inr (Or.inr (Or.inr (Or.inl ⟨h.1, h.2.1, h.2.2.1, h.2.2.2⟩))))) (fun h => (Or.elim h (fun h => (Or.inr (Or.inr (Or.inr (Or.inr (Or.inl ⟨h.1, h.2.1, h.2.2.1, h.2.2.2⟩)))))) (fun h => (Or.elim h (fun h => (Or.inr (Or.inr (Or.inr (Or.inr (Or.inr (Or.inl ⟨h.1, h.2.1, h.2.2.1, h.2.2.2⟩))))))) (fun h => (Or.elim h (fun h => (Or.inr (Or.inr (Or.inr (Or.inr (Or.inr (Or.inr (Or.inl ⟨h.1, h.2.1, h.2.2.1, h.2.2.2⟩)))))))) (fun h => (Or.elim h (fun h => (Or.inr (Or.inr (Or.inr (Or.inr (Or.inr (Or.inr (Or.inr (Or.inl ⟨h.1, h.2.1, h.2.2⟩))))))))) (fun h => (Or.elim h (fun h => (Or.inr (Or.inr (Or.inr (Or.inr (Or.inr (Or.inr (Or.inr (Or.inr (Or.inl ⟨h.1, h.2.1, h.2.2⟩)))))))))) (fun h => (Or.elim h (fun h => (Or.inr (Or.inr (Or.inr (Or.inr (Or.inr (Or.inr (Or.inr (Or.inr (Or.inr (Or.inl ⟨h.1, h.2.1, h.2.2⟩))))))))))) (fun h => (Or.elim h (fun h => (Or.inr (Or.inr (Or.inr (Or.inr (Or.inr (Or.inr (Or.inr (Or.inr (Or.inr (Or.inr (Or.inl ⟨h.1, h.2.1, h.2.2⟩)))))))))))) (fun h => (Or.elim h (fun h => (Or.inr (Or.inr (Or.inr (Or.inr (Or.inr (Or.inr (Or.inr (Or.inr (Or.inr (Or.inr (Or.inr (Or.inl ⟨h.1, h.2.1, h.2.2⟩))))))))))))) (fun h => (Or.elim h (fun h => (Or.inr (Or.inr (Or.inr (Or.inr (Or.inr (Or.inr (Or.inr (Or.inr (Or.inr (Or.inr (Or.inr (Or.inr (Or.inl ⟨h.1, h.2.1, h.2.2⟩)))))))))))))) (fun h => (Or.elim h (fun h => (Or.inr (Or.inr (Or.inr (Or.inr (Or.inr (Or.inr (Or.inr (Or.inr (Or.inr (Or.inr (Or.inr (Or.inr (Or.inr (Or.inl ⟨h.1, h.2.1, h.2.2⟩))))))))))))))) (fun h => (Or.elim h (fun h => (Or.inr (Or.inr (Or.inr (Or.inr (Or.inr (Or.inr (Or.inr (Or.inr (Or.inr (Or.inr (Or.inr (Or.inr (Or.inr (Or.inr (Or.inl ⟨h.1, h.2.1, h.2.2.1, h.2.2.2⟩)))))))))))))))) (fun h => (Or.elim h (fun h => (Or.inr (Or.inr (Or.inr (Or.inr (Or.inr (Or.inr (Or.inr (Or.inr (Or.inr (Or.inr (Or.inr (Or.inr (Or.inr (Or.inr (Or.inr (Or.inl ⟨h.1, h.2.1, h.2.2⟩))))))))))))))))) (fun h => (Or.elim h (fun h => (Or.inr (Or.inr (Or.inr (Or.inr (Or.inr (Or.inr (Or.inr (Or.inr (Or.inr (Or.inr (Or.inr (Or.inr (Or.inr (Or.inr (Or.inr (Or.inr (Or.inl ⟨h.1, h.2.1, h.2.2⟩)))))))))))))))))) (fun h => (Or.elim h (fun h => (Or.inr (Or.inr (Or.inr (Or.inr (Or.inr (Or.inr (Or.inr (Or.inr (Or.inr (Or.inr (Or.inr (Or.inr (Or.inr (Or.inr (Or.inr (Or.inr (Or.inr (Or.inl ⟨h.1, h.2.1, h.2.2⟩))))))))))))))))))) (fun h => (Or.elim h (fun h => (Or.inr (Or.inr (Or.inr (Or.inr (Or.inr (Or.inr (Or.inr (Or.inr (Or.inr (Or.inr (Or.inr (Or.inr (Or.inr (Or.inr (Or.inr (Or.inr (Or.inr (Or.inr (Or.inl ⟨h.1, h.2.1, h.2.2⟩)))))))))))))))))))) (fun h => (Or.elim h (fun h => (Or.inr (Or.inr (Or.inr (Or.inr (Or.inr (Or.inr (Or.inr (Or.inr (Or.inr (Or.inr (Or.inr (Or.inr (Or.inr (Or.inr (Or.inr (Or.inr (Or.inr (Or.inr (Or.inr (Or.inl ⟨h.1, h.2.1, h.2.2⟩))))))))))))))))))))) (fun h => (Or.elim h (fun h => (Or.inr (Or.inr (Or.inr (Or.inr (Or.inr (Or.inr (Or.inr (Or.inr (Or.inr (Or.inr (Or.inr (Or.inr (Or.inr (Or.inr (Or.inr (Or.inr (Or.inr (Or.inr (Or.inr (Or.inr (Or.inl ⟨h.1, h.2.1, h.2.2⟩)))))))))))))))))))))) (fun h => (Or.elim h (fun h => (Or.inr (Or.inr (Or.inr (Or.inr (Or.inr (Or.inr (Or.inr (Or.inr (Or.inr (Or.inr (Or.inr (Or.inr (Or.inr (Or.inr (Or.inr (Or.inr (Or.inr (Or.inr (Or.inr (Or.inr (Or.inr (Or.inl ⟨h.1, h.2.1, h.2.2⟩))))))))))))))))))))))) (fun h => (Or.elim h (fun h => (Or.inr (Or.inr (Or.inr (Or.inr (Or.inr (Or.inr (Or.inr (Or.inr (Or.inr (Or.inr (Or.inr (Or.inr (Or.inr (Or.inr (Or.inr (Or.inr (Or.inr (Or.inr (Or.inr (Or.inr (Or.inr (Or.inr (Or.inl ⟨h.1, h.2.1, h.2.2⟩)))))))))))))))))))))))) (fun h => (Or.elim h (fun h => (Or.inr (Or.inr (Or.inr (Or.inr (Or.inr (Or.inr (Or.inr (Or.inr (Or.inr (Or.inr (Or.inr (Or.inr (Or.inr (Or.inr (Or.inr (Or.inr (Or.inr (Or.inr (Or.inr (Or.inr (Or.inr (Or.inr (Or.inr (Or.inl ⟨h.1, h.2.1, h.2.2⟩))))))))))))))))))))))))) (fun h => (Or.elim h (fun h => (Or.inr (Or.inr (Or.inr (Or.inr (Or.inr (Or.inr (Or.inr (Or.inr (Or.inr (Or.inr (Or.inr (Or.inr (Or.inr (Or.inr (Or.inr (Or.inr (Or.inr (Or.inr (Or.inr (Or.inr (Or.inr (Or.inr (Or.inr (Or.inr (Or.inl ⟨h.1, h.2.1, h.2.2⟩)))))))))))))))))))))))))) (fun h => (Or.elim h (fun h => (Or.inr (Or.inr (Or.inr (Or.inr (Or.inr (Or.inr (Or.inr (Or.inr (Or.inr (Or.inr (Or.inr (Or.inr (Or.inr (Or.inr (Or.inr (Or.inr (Or.inr (Or.inr (Or.inr (Or.inr (Or.inr (Or.inr (Or.inr (Or.inr (Or.inr (Or.inl ⟨h.1, h.2.1, h.2.2.1, h.2.2.2⟩))))))))))))))))))))))))))) (fun h => (Or.elim h (fun h => (Or.inr (Or.inr (Or.inr (Or.inr (Or.inr (Or.inr (Or.inr (Or.inr (Or.inr (Or.inr (Or.inr (Or.inr (Or.inr (Or.inr (Or.inr (Or.inr (Or.inr (Or.inr (Or.inr (Or.inr (Or.inr (Or.inr (Or.inr (Or.inr (Or.inr (Or.inr (Or.inl ⟨h.1, h.2.1, h.2.2⟩)))))))))))))))))))))))))))) (fun h => (Or.elim h (fun h => (Or.inr (Or.inr (Or.inr (Or.inr (Or.inr (Or.inr (Or.inr (Or.inr (Or.inr (Or.inr (Or.inr (Or.inr (Or.inr (Or.inr (Or.inr (Or.inr (Or.inr (Or.inr (Or.inr (Or.inr (Or.inr (Or.inr (Or.inr (Or.inr (Or.inr (Or.inr (Or.inr (Or.inl ⟨h.1, h.2.1, h.2.2⟩))))))))))))))))))))))))))))) (fun h => (Or.elim h (fun h => (Or.inr (Or.inr (Or.inr (Or.inr (Or.inr (Or.inr (Or.inr (Or.inr (Or.inr (Or.inr (Or.inr (Or.inr (Or.inr (Or.inr (Or.inr (Or.inr (Or.inr (Or.inr (Or.inr (Or.inr (Or.inr (Or.inr (Or.inr (Or.inr (Or.inr (Or.inr (Or.inr (Or.inr (Or.inl ⟨h.1, h.2.1, h.2.2⟩)))))))))))))))))))))))))))))) (fun h => (Or.elim h (fun h => (Or.inr (Or.inr (Or.inr (Or.inr (Or.inr (Or.inr (Or.inr (Or.inr (Or.inr (Or.inr (Or.inr (Or.inr (Or.inr (Or.inr (Or.inr (Or.inr (Or.inr (Or.inr (Or.inr (Or.inr (Or.inr (Or.inr (Or.inr (Or.inr (Or.inr (Or.inr (Or.inr (Or.inr (Or.inr (Or.inl ⟨h.1, h.2.1, h.2.2⟩))))))))))))))))))))))))))))))) (fun h => (Or.elim h (fun h => (Or.inr (Or.inr (Or.inr (Or.inr (Or.inr (Or.inr (Or.inr (Or.inr (Or.inr (Or.inr (Or.inr (Or.inr (Or.inr (Or.inr (Or.inr (Or.inr (Or.inr (Or.inr (Or.inr (Or.inr (Or.inr (Or.inr (Or.inr (Or.inr (Or.inr (Or.inr (Or.inr (Or.inr (Or.inr (Or.inr (Or.inl ⟨h.1, h.2.1, h.2.2⟩)))))))))))))))))))))))))))))))) (fun h => (Or.elim h (fun h => (Or.inr (Or.inr (Or.inr (Or.inr (Or.inr (Or.inr (Or.inr (Or.inr (Or.inr (Or.inr (Or.inr (Or.inr (Or.inr (Or.inr (Or.inr (Or.inr (Or.inr (Or.inr (Or.inr (Or.inr (Or.inr (Or.inr (Or.inr (Or.inr (Or.inr (Or.inr (Or.inr (Or.inr (Or.inr (Or.inr (Or.inr (Or.inl ⟨h.1, h.2.1, h.2.2.1, h.2.2.2⟩))))))))))))))))))))))))))))))))) (fun h => (Or.elim h (fun h => (Or.inr (Or.inr (Or.inr (Or.inr (Or.inr (Or.inr (Or.inr (Or.inr (Or.inr (Or.inr (Or.inr (Or.inr (Or.inr (Or.inr (Or.inr (Or.inr (Or.inr (Or.inr (Or.inr (Or.inr (Or.inr (Or.inr (Or.inr (Or.inr (Or.inr (Or.inr (Or.inr (Or.inr (Or.inr (Or.inr (Or.inr (Or.inr (Or.inl ⟨h.1, h.2.1, h.2.2⟩)))))))))))))))))))))))))))))))))) (fun h => (Or.elim h (fun h => (Or.inr (Or.inr (Or.inr (Or.inr (Or.inr (Or.inr (Or.inr (Or.inr (Or.inr (Or.inr (Or.inr (Or.inr (Or.inr (Or.inr (Or.inr (Or.inr (Or.inr (Or.inr (Or.inr (Or.inr (Or.inr (Or.inr (Or.inr (Or.inr (Or.inr (Or.inr (Or.inr (Or.inr (Or.inr (Or.inr (Or.inr (Or.inr (Or.inr (Or.inl ⟨h.1, h.2.1, h.2.2⟩))))))))))))))))))))))))))))))))))) (fun h => (Or.elim h (fun h => (Or.inr (Or.inr (Or.inr (Or.inr (Or.inr (Or.inr (Or.inr (Or.inr (Or.inr (Or.inr (Or.inr (Or.inr (Or.inr (Or.inr (Or.inr (Or.inr (Or.inr (Or.inr (Or.inr (Or.inr (Or.inr (Or.inr (Or.inr (Or.inr (Or.inr (Or.inr (Or.inr (Or.inr (Or.inr (Or.inr (Or.inr (Or.inr (Or.inr (Or.inr (Or.inl ⟨h.1, h.2.1, h.2.2⟩)))))))))))))))))))))))))))))))))))) (fun h => (Or.elim h (fun h => (Or.inr (Or.inr (Or.inr (Or.inr (Or.inr (Or.inr (Or.inr (Or.inr (Or.inr (Or.inr (Or.inr (Or.inr (Or.inr (Or.inr (Or.inr (Or.inr (Or.inr (Or.inr (Or.inr (Or.inr (Or.inr (Or.inr (Or.inr (Or.inr (Or.inr (Or.inr (Or.inr (Or.inr (Or.inr (Or.inr (Or.inr (Or.inr (Or.inr (Or.inr (Or.inr (Or.inl ⟨h.1, h.2.1, h.2.2⟩))))))))))))))))))))))))))))))))))))) (fun h => (Or.elim h (fun h => (Or.inr (Or.inr (Or.inr (Or.inr (Or.inr (Or.inr (Or.inr (Or.inr (Or.inr (Or.inr (Or.inr (Or.inr (Or.inr (Or.inr (Or.inr (Or.inr (Or.inr (Or.inr (Or.inr (Or.inr (Or.inr (Or.inr (Or.inr (Or.inr (Or.inr (Or.inr (Or.inr (Or.inr (Or.inr (Or.inr (Or.inr (Or.inr (Or.inr (Or.inr (Or.inr (Or.inr (Or.inl ⟨h.1, h.2.1, h.2.2⟩)))))))))))))))))))))))))))))))))))))) (fun h => (Or.elim h (fun h => (Or.inr (Or.inr (Or.inr (Or.inr (Or.inr (Or.inr (Or.inr (Or.inr (Or.inr (Or.inr (Or.inr (Or.inr (Or.inr (Or.inr (Or.inr (Or.inr (Or.inr (Or.inr (Or.inr (Or.inr (Or.inr (Or.inr (Or.inr (Or.inr (Or.inr (Or.inr (Or.inr (Or.inr (Or.inr (Or.inr (Or.inr (Or.inr (Or.inr (Or.inr (Or.inr (Or.inr (Or.inr (Or.inl ⟨h.1, h.2.1, h.2.2⟩))))))))))))))))))))))))))))))))))))))) (fun h => (Or.elim h (fun h => (Or.inr (Or.inr (Or.inr (Or.inr (Or.inr (Or.inr (Or.inr (Or.inr (Or.inr (Or.inr (Or.inr (Or.inr (Or.inr (Or.inr (Or.inr (Or.inr (Or.inr (Or.inr (Or.inr (Or.inr (Or.inr (Or.inr (Or.inr (Or.inr (Or.inr (Or.inr (Or.inr (Or.inr (Or.inr (Or.inr (Or.inr (Or.inr (Or.inr (Or.inr (Or.inr (Or.inr (Or.inr (Or.inr (Or.inl ⟨h.1, h.2.1, h.2.2⟩)))))))))))))))))))))))))))))))))))))))) (fun h => (Or.elim h (fun h => (Or.inr (Or.inr (Or.inr (Or.inr (Or.inr (Or.inr (Or.inr (Or.inr (Or.inr (Or.inr (Or.inr (Or.inr (Or.inr (Or.inr (Or.inr (Or.inr (Or.inr (Or.inr (Or.inr (Or.inr (Or.inr (Or.inr (Or.inr (Or.inr (Or.inr (Or.inr (Or.inr (Or.inr (Or.inr (Or.inr (Or.inr (Or.inr (Or.inr (Or.inr (Or.inr (Or.inr (Or.inr (Or.inr (Or.inr (Or.inl ⟨h.1, h.2.1, h.2.2.1, h.2.2.2⟩))))))))))))))))))))))))))))))))))))))))) (fun h => (Or.elim h (fun h => (Or.inr (Or.inr (Or.inr (Or.inr (Or.inr (Or.inr (Or.inr (Or.inr (Or.inr (Or.inr (Or.inr (Or.inr (Or.inr (Or.inr (Or.inr (Or.inr (Or.inr (Or.inr (Or.inr (Or.inr (Or.inr (Or.inr (Or.inr (Or.inr (Or.inr (Or.inr (Or.inr (Or.inr (Or.inr (Or.inr (Or.inr (Or.inr (Or.inr (Or.inr (Or.inr (Or.inr (Or.inr (Or.inr (Or.inr (Or.inr (Or.inl ⟨h.1, h.2.1, h.2.2⟩)))))))))))))))))))))))))))))))))))))))))) (fun h => (Or.elim h (fun h => (Or.inr (Or.inr (Or.inr (Or.inr (Or.inr (Or.inr (Or.inr (Or.inr (Or.inr (Or.inr (Or.inr (Or.inr (Or.inr (Or.inr (Or.inr (Or.inr (Or.inr (Or.inr (Or.inr (Or.inr (Or.inr (Or.inr (Or.inr (Or.inr (Or.inr (Or.inr (Or.inr (Or.inr (Or.inr (Or.inr (Or.inr (Or.inr (Or.inr (Or.inr (Or.inr (Or.inr (Or.inr (Or.inr (Or.inr (Or.inr (Or.inr (Or.inl ⟨h.1, h.2.1, h.2.2⟩))))))))))))))))))))))))))))))))))))))))))) (fun h => (Or.elim h (fun h => (Or.inr (Or.inr (Or.inr (Or.inr (Or.inr (Or.inr (Or.inr (Or.inr (Or.inr (Or.inr (Or.inr (Or.inr (Or.inr (Or.inr (Or.inr (Or.inr (Or.inr (Or.inr (Or.inr (Or.inr (Or.inr (Or.inr (Or.inr (Or.inr (Or.inr (Or.inr (Or.inr (Or.inr (Or.inr (Or.inr (Or.inr (Or.inr (Or.inr (Or.inr (Or.inr (Or.inr (Or.inr (Or.inr (Or.inr (Or.inr (Or.inr (Or.inr (Or.inl ⟨h.1, h.2.1, h.2.2⟩)))))))))))))))))))))))))))))))))))))))))))) (fun h => (Or.elim h (fun h => (Or.inr (Or.inr (Or.inr (Or.inr (Or.inr (Or.inr (Or.inr (Or.inr (Or.inr (Or.inr (Or.inr (Or.inr (Or.inr (Or.inr (Or.inr (Or.inr (Or.inr (Or.inr (Or.inr (Or.inr (Or.inr (Or.inr (Or.inr (Or.inr (Or.inr (Or.inr (Or.inr (Or.inr (Or.inr (Or.inr (Or.inr (Or.inr (Or.inr (Or.inr (Or.inr (Or.inr (Or.inr (Or.inr (Or.inr (Or.inr (Or.inr (Or.inr (Or.inr (Or.inl ⟨h.1, h.2.1, h.2.2⟩))))))))))))))))))))))))))))))))))))))))))))) (fun h => (Or.elim h (fun h => (Or.inr (Or.inr (Or.inr (Or.inr (Or.inr (Or.inr (Or.inr (Or.inr (Or.inr (Or.inr (Or.inr (Or.inr (Or.inr (Or.inr (Or.inr (Or.inr (Or.inr (Or.inr (Or.inr (Or.inr (Or.inr (Or.inr (Or.inr (Or.inr (Or.inr (Or.inr (Or.inr (Or.inr (Or.inr (Or.inr (Or.inr (Or.inr (Or.inr (Or.inr (Or.inr (Or.inr (Or.inr (Or.inr (Or.inr (Or.inr (Or.inr (Or.inr (Or.inr (Or.inr (Or.inl ⟨h.1, h.2.1, h.2.2⟩)))))))))))))))))))))))))))))))))))))))))))))) (fun h => (Or.elim h (fun h => (Or.inr (Or.inr (Or.inr (Or.inr (Or.inr (Or.inr (Or.inr (Or.inr (Or.inr (Or.inr (Or.inr (Or.inr (Or.inr (Or.inr (Or.inr (Or.inr (Or.inr (Or.inr (Or.inr (Or.inr (Or.inr (Or.inr (Or.inr (Or.inr (Or.inr (Or.inr (Or.inr (Or.inr (Or.inr (Or.inr (Or.inr (Or.inr (Or.inr (Or.inr (Or.inr (Or.inr (Or.inr (Or.inr (Or.inr (Or.inr (Or.inr (Or.inr (Or.inr (Or.inr (Or.inr (Or.inl ⟨h.1, h.2.1, h.2.2⟩))))))))))))))))))))))))))))))))))))))))))))))) (fun h => (Or.inr (Or.inr (Or.inr (Or.inr (Or.inr (Or.inr (Or.inr (Or.inr (Or.inr (Or.inr (Or.inr (Or.inr (Or.inr (Or.inr (Or.inr (Or.inr (Or.inr (Or.inr (Or.inr (Or.inr (Or.inr (Or.inr (Or.inr (Or.inr (Or.inr (Or.inr (Or.inr (Or.inr (Or.inr (Or.inr (Or.inr (Or.inr (Or.inr (Or.inr (Or.inr (Or.inr (Or.inr (Or.inr (Or.inr (Or.inr (Or.inr (Or.inr (Or.inr (Or.inr (Or.inr (Or.inr (Or.inl ⟨h.1, h.2.1, h.2.2⟩))))))))))))))))))))))))))))))))))))))))))))))))))))))))))))))))))))))))))))))))))))))))))))))))))))))))))))))))))))))))))))))))))))))))))))) _ h0) (fun a3 S4 h1 => ?_)
        refine Kf.bd ((zk_T_addTens (r0 := (2)) (fun g r k i h => hW g r k i (Or.elim h (fun h => (Or.inr (Or.inr (Or.inr (Or.inr (Or.inr (Or.inr (Or.inr (Or.inr (Or.inr (Or.inr (Or.inr (Or.inr (Or.inr (Or.inr (Or.inr (Or.inr (Or.inr (Or.inr (Or.inr (Or.inr (Or.inr (Or.inr (Or.inr (Or.inr (Or.inr (Or.inr (Or.inr (Or.inr (Or.inr (Or.inr (Or.inr (Or.inl ⟨h.1, h.2.1, h.2.2.1, h.2.2.2⟩))))))))))))))))))))))))))))))))) (fun h => (Or.elim h (fun h => (Or.inr (Or.inr (Or.inr (Or.inr (Or.inr (Or.inr (Or.inr (Or.inr (Or.inr (Or.inr (Or.inr (Or.inr (Or.inr (Or.inr (Or.inr (Or.inr (Or.inr (Or.inr (Or.inr (Or.inr (Or.inr (Or.inr (Or.inr (Or.inr (Or.inr (Or.inr (Or.inr (Or.inr (Or.inr (Or.inr (Or.inr (Or.inr (Or.inr (Or.inr (Or.inr (Or.inl ⟨h.1, h.2.1, h.2.2⟩))))))))))))))))))))))))))))))))))))) (fun h => (Or.inr (Or.inr (Or.inr (Or.inr (Or.inr (Or.inr (Or.inr (Or.inr (Or.inr (Or.inr (Or.inr (Or.inr (Or.inr (Or.inr (Or.inr (Or.inr (Or.inr (Or.inr (Or.inr (Or.inr (Or.inr (Or.inr (Or.inr (Or.inr (Or.inr (Or.inr (Or.inr (Or.inr (Or.inr (Or.inr (Or.inr (Or.inr (Or.inr (Or.inr (Or.inr (Or.inr (Or.inl ⟨h.1, h.2.1, h.2.2⟩))))))))))))))))))))))))))))))))))))))))))) _ _ _ h1) (fun a5 S6 h2 => ?_)
        refine Kf.bd ((zk_T_addTens (r0 := (2)) (fun g r k i h => hW g r k i (Or.elim h (fun h => (Or.inr (Or.inr (Or.inr (Or.inr (Or.inr (Or.inr (Or.inr (Or.inr (Or.inr (Or.inr (Or.inr (Or.inr (Or.inr (Or.inr (Or.inr (Or.inr (Or.inr (Or.inr (Or.inr (Or.inr (Or.inr (Or.inr (Or.inr (Or.inr (Or.inr (Or.inr (Or.inr (Or.inr (Or.inr (Or.inr (Or.inr (Or.inl ⟨h.1, h.2.1, h.2.2.1, h.2.2.2⟩))))))))))))))))))))))))))))))))) (fun h => (Or.elim h (fun h => (Or.inr (Or.inr (Or.inr (Or.inr (Or.inr (Or.inr (Or.inr (Or.inr (Or.inr (Or.inr (Or.inr (Or.inr (Or.inr (Or.inr (Or.inr (Or.inr (Or.inr (Or.inr (Or.inr (Or.inr (Or.inr (Or.inr (Or.inr (Or.inr (Or.inr (Or.inr (Or.inr (Or.inr (Or.inr (Or.inr (Or.inr (Or.inr (Or.inr (Or.inr (Or.inr (Or.inl ⟨h.1, h.2.1, h.2.2⟩))))))))))))))))))))))))))))))))))))) (fun h => (Or.inr (Or.inr (Or.inr (Or.inr (Or.inr (Or.inr (Or.inr (Or.inr (Or.inr (Or.inr (Or.inr (Or.inr (Or.inr (Or.inr (Or.inr (Or.inr (Or.inr (Or.inr (Or.inr (Or.inr (Or.inr (Or.inr (Or.inr (Or.inr (Or.inr (Or.inr (Or.inr (Or.inr (Or.inr (Or.inr (Or.inr (Or.inr (Or.inr (Or.inr (Or.inr (Or.inr (Or.inl ⟨h.1, h.2.1, h.2.2⟩))))))))))))))))))))))))))))))))))))))))))) _ _ _ h2) (fun a7 S8 h3 => ?_)
        refine Kf.bd ((zk_O_lackInMind (fun g r k i h => hW g r k i (Or.elim h (fun h => (Or.inl ⟨h.1, h.2.1, h.2.2.1, h.2.2.2⟩)) (fun h => (Or.elim h (fun h => (Or.inr (Or.inl ⟨h.1, h.2.1, h.2.2.1, h.2.2.2⟩))) (fun h => (Or.elim h (fun h => (Or.inr (Or.inr (Or.inl ⟨h.1, h.2.1, h.2.2.1, h.2.2.2⟩)))) (fun h => (Or.elim h (fun h => (Or.inr (Or.inr (Or.inr (Or.inl ⟨h.1, h.2.1, h.2.2.1, h.2.2.2⟩))))) (fun h => (Or.elim h (fun h => (Or.inr (Or.inr (Or.inr (Or.inr (Or.inl ⟨h.1, h.2.1, h.2.2.1, h.2.2.2⟩)))))) (fun h => (Or.elim h (fun h => (Or.inr (Or.inr (Or.inr (Or.inr (Or.inr (Or.inr (Or.inl ⟨h.1, h.2.1, h.2.2.1, h.2.2.2⟩)))))))) (fun h => (Or.elim h (fun h => (Or.inr (Or.inr (Or.inr (Or.inr (Or.inr (Or.inr (Or.inr (Or.inr (Or.inr (Or.inl ⟨h.1, h.2.1, h.2.2⟩))))))))))) (fun h => (Or.elim h (fun h => (Or.inr (Or.inr (Or.inr (Or.inr (Or.inr (Or.inr (Or.inr (Or.inr (Or.inr (Or.inr (Or.inr (Or.inl ⟨h.1, h.2.1, h.2.2⟩))))))))))))) (fun h => (Or.elim h (fun h => (Or.inr (Or.inr (Or.inr (Or.inr (Or.inr (Or.inr (Or.inr (Or.inr (Or.inr (Or.inr (Or.inr (Or.inr (Or.inl ⟨h.1, h.2.1, h.2.2⟩)))))))))))))) (fun h => (Or.elim h (fun h => (Or.inr (Or.inr (Or.inr (Or.inr (Or.inr (Or.inr (Or.inr (Or.inr (Or.inr (Or.inr (Or.inr (Or.inr (Or.inr (Or.inl ⟨h.1, h.2.1, h.2.2⟩))))))))))))))) (fun h => (Or.elim h (fun h => (Or.inr (Or.inr (Or.inr (Or.inr (Or.inr (Or.inr (Or.inr (Or.inr (Or.inr (Or.inr (Or.inr (Or.inr (Or.inr (Or.inr (Or.inr (Or.inr (Or.inr (Or.inr (Or.inl ⟨h.1, h.2.1, h.2.2⟩)))))))))))))))))))) (fun h => (Or.elim h (fun h => (Or.inr (Or.inr (Or.inr (Or.inr (Or.inr (Or.inr (Or.inr (Or.inr (Or.inr (Or.inr (Or.inr (Or.inr (Or.inr (Or.inr (Or.inr (Or.inr (Or.inr (Or.inr (Or.inr (Or.inr (Or.inr (Or.inr (Or.inr (Or.inr (Or.inr (Or.inr (Or.inr (Or.inr (Or.inr (Or.inl ⟨h.1, h.2.1, h.2.2⟩))))))))))))))))))))))))))))))) (fun h => (Or.elim h (fun h => (Or.inr (Or.inr (Or.inr (Or.inr (Or.inr (Or.inr (Or.inr (Or.inr (Or.inr (Or.inr (Or.inr (Or.inr (Or.inr (Or.inr (Or.inr (Or.inr (Or.inr (Or.inr (Or.inr (Or.inr (Or.inr (Or.inr (Or.inr (Or.inr (Or.inr (Or.inr (Or.inr (Or.inr (Or.inr (Or.inr (Or.inr (Or.inr (Or.inl ⟨h.1, h.2.1, h.2.2⟩)))))))))))))))))))))))))))))))))) (fun h => (Or.elim h (fun h => (Or.inr (Or.inr (Or.inr (Or.inr (Or.inr (Or.inr (Or.inr (Or.inr (Or.inr (Or.inr (Or.inr (Or.inr (Or.inr (Or.inr (Or.inr (Or.inr (Or.inr (Or.inr (Or.inr (Or.inr (Or.inr (Or.inr (Or.inr (Or.inr (Or.inr (Or.inr (Or.inr (Or.inr (Or.inr (Or.inr (Or.inr (Or.inr (Or.inr (Or.inr (Or.inr (Or.inr (Or.inl ⟨h.1, h.2.1, h.2.2⟩)))))))))))))))))))))))))))))))))))))) (fun h => (Or.elim h (fun h => (Or.inr (Or.inr (Or.inr (Or.inr (Or.inr (Or.inr (Or.inr (Or.inr (Or.inr (Or.inr (Or.inr (Or.inr (Or.inr (Or.inr (Or.inr (Or.inr (Or.inr (Or.inr (Or.inr (Or.inr (Or.inr (Or.inr (Or.inr (Or.inr (Or.inr (Or.inr (Or.inr (Or.inr (Or.inr (Or.inr (Or.inr (Or.inr (Or.inr (Or.inr (Or.inr (Or.inr (Or.inr (Or.inr (Or.inl ⟨h.1, h.2.1, h.2.2⟩)))))))))))))))))))))))))))))))))))))))) (fun h => (Or.elim h (fun h => (Or.inr (Or.inr (Or.inr (Or.inr (Or.inr (Or.inr (Or.inr (Or.inr (Or.inr (Or.inr (Or.inr (Or.inr (Or.inr (Or.inr (Or.inr (Or.inr (Or.inr (Or.inr (Or.inr (Or.inr (Or.inr (Or.inr (Or.inr (Or.inr (Or.inr (Or.inr (Or.inr (Or.inr (Or.inr (Or.inr (Or.inr (Or.inr (Or.inr (Or.inr (Or.inr (Or.inr (Or.inr (Or.inr (Or.inr (Or.inr (Or.inr (Or.inr (Or.inr (Or.inr (Or.inr (Or.inr (Or.inr (Or.inl ⟨h.1, h.2.1, h.2.2⟩))))))))))))))))))))))))))))))))))))))))))))))))) (fun h => (Or.elim h (fun h => (Or.inr (Or.inr (Or.inr (Or.inr (Or.inr (Or.inr (Or.inr (Or.inr (Or.inr (Or.inr (Or.inr (Or.inr (Or.inr (Or.inr (Or.inr (Or.inr (Or.inr (Or.inr (Or.inr (Or.inr (Or.inr (Or.inr (Or.inr (Or.inr (Or.inr (Or.inr (Or.inr (Or.inr (Or.inr (Or.inr (Or.inr (Or.inr (Or.inr (Or.inr (Or.inr (Or.inr (Or.inr (Or.inr (Or.inr (Or.inr (Or.inr (Or.inr (Or.inr (Or.inr (Or.inr (Or.inr (Or.inr (Or.inr (Or.inl ⟨h.1, h.2.1, h.2.2⟩)))))))))))))))))))))))))))))))))))))))))))))))))) (fun h => (Or.elim h (fun h => (Or.inr (Or.inr (Or.inr (Or.inr (Or.inr (Or.inr (Or.inr (Or.inr (Or.inr (Or.inr (Or.inr (Or.inr (Or.inr (Or.inr (Or.inr (Or.inr (Or.inr (Or.inr (Or.inr (Or.inr (Or.inr (Or.inr (Or.inr (Or.inr (Or.inr (Or.inr (Or.inr (Or.inr (Or.inr (Or.inr (Or.inr (Or.inr (Or.inr (Or.inr (Or.inr (Or.inr (Or.inr (Or.inr (Or.inr (Or.inr (Or.inr (Or.inr (Or.inr (Or.inr (Or.inr (Or.inr (Or.inr (Or.inr (Or.inr (Or.inl ⟨h.1, h.2.1, h.2.2⟩))))))))))))))))))))))))))))))))))))))))))))))))))) (fun h => (Or.elim h (fun h => (Or.inr (Or.inr (Or.inr (Or.inr (Or.inr (Or.inr (Or.inr (Or.inr (Or.inr (Or.inr (Or.inr (Or.inr (Or.inr (Or.inr (Or.inr (Or.inr (Or.inr (Or.inr (Or.inr (Or.inr (Or.inr (Or.inr (Or.inr (Or.inr (Or.inr (Or.inr (Or.inr (Or.inr (Or.inr (Or.inr (Or.inr (Or.inr (Or.inr (Or.inr (Or.inr (Or.inr (Or.inr (Or.inr (Or.inr (Or.inr (Or.inr (Or.inr (Or.inr (Or.inr (Or.inr (Or.inr (Or.inr (Or.inr (Or.inr (Or.inr (Or.inl ⟨h.1, h.2.1, h.2.2.1, h.2.2.2⟩)))))))))))))))))))))))))))))))))))))))))))))))))))) (fun h => (Or.elim h (fun h => (Or.inr (Or.inr (Or.inr (Or.inr (Or.inr (Or.inr (Or.inr (Or.inr (Or.inr (Or.inr (Or.inr (Or.inr (Or.inr (Or.inr (Or.inr (Or.inr (Or.inr (Or.inr (Or.inr (Or.inr (Or.inr (Or.inr (Or.inr (Or.inr (Or.inr (Or.inr (Or.inr (Or.inr (Or.inr (Or.inr (Or.inr (Or.inr (Or.inr (Or.inr (Or.inr (Or.inr (Or.inr (Or.inr (Or.inr (Or.inr (Or.inr (Or.inr (Or.inr (Or.inr (Or.inr (Or.inr (Or.inr (Or.inr (Or.inr (Or.inr (Or.inr (Or.inl ⟨h.1, h.2.1, h.2.2⟩))))))))))))))))))))))))))))))))))))))))))))))))))))) (fun h => (Or.elim h (fun h => (Or.inr (Or.inr (Or.inr (Or.inr (Or.inr (Or.inr (Or.inr (Or.inr (Or.inr (Or.inr (Or.inr (Or.inr (Or.inr (Or.inr (Or.inr (Or.inr (Or.inr (Or.inr (Or.inr (Or.inr (Or.inr (Or.inr (Or.inr (Or.inr (Or.inr (Or.inr (Or.inr (Or.inr (Or.inr (Or.inr (Or.inr (Or.inr (Or.inr (Or.inr (Or.inr (Or.inr (Or.inr (Or.inr (Or.inr (Or.inr (Or.inr (Or.inr (Or.inr (Or.inr (Or.inr (Or.inr (Or.inr (Or.inr (Or.inr (Or.inr (Or.inr (Or.inr (Or.inl ⟨h.1, h.2.1, h.2.2⟩)))))))))))))))))))))))))))))))))))))))))))))))))))))) (fun h => (Or.elim h (fun h => (Or.inr (Or.inr (Or.inr (Or.inr (Or.inr (Or.inr (Or.inr (Or.inr (Or.inr (Or.inr (Or.inr (Or.inr (Or.inr (Or.inr (Or.inr (Or.inr (Or.inr (Or.inr (Or.inr (Or.inr (Or.inr (Or.inr (Or.inr (Or.inr (Or.inr (Or.inr (Or.inr (Or.inr (Or.inr (Or.inr (Or.inr (Or.inr (Or.inr (Or.inr (Or.inr (Or.inr (Or.inr (Or.inr (Or.inr (Or.inr (Or.inr (Or.inr (Or.inr (Or.inr (Or.inr (Or.inr (Or.inr (Or.inr (Or.inr (Or.inr (Or.inr (Or.inr (Or.inr (Or.inl ⟨h.1, h.2.1, h.2.2⟩))))))))))))))))))))))))))))))))))))))))))))))))))))))) (fun h => (Or.elim h (fun h => (Or.inr (Or.inr (Or.inr (Or.inr (Or.inr (Or.inr (Or.inr (Or.inr (Or.inr (Or.inr (Or.inr (Or.inr (Or.inr (Or.inr (Or.inr (Or.inr (Or.inr (Or.inr (Or.inr (Or.inr (Or.inr (Or.inr (Or.inr (Or.inr (Or.inr (Or.inr (Or.inr (Or.inr (Or.inr (Or.inr (Or.inr (Or.inr (Or.inr (Or.inr (Or.inr (Or.inr (Or.inr (Or.inr (Or.inr (Or.inr (Or.inr (Or.inr (Or.inr (Or.inr (Or.inr (Or.inr (Or.inr (Or.inr (Or.inr (Or.inr (Or.inr (Or.inr (Or.inr (Or.inr (Or.inl ⟨h.1, h.2.1, h.2.2⟩)))))))))))))))))))))))))))))))))))))))))))))))))))))))) (fun h => (Or.elim h (fun h => (Or.inr (Or.inr (Or.inr (Or.inr (Or.inr (Or.inr (Or.inr (Or.inr (Or.inr (Or.inr (Or.inr (Or.inr (Or.inr (Or.inr (Or.inr (Or.inr (Or.inr (Or.inr (Or.inr (Or.inr (Or.inr (Or.inr (Or.inr (Or.inr (Or.inr (Or.inr (Or.inr (Or.inr (Or.inr (Or.inr (Or.inr (Or.inr (Or.inr (Or.inr (Or.inr (Or.inr (Or.inr (Or.inr (Or.inr (Or.inr (Or.inr (Or.inr (Or.inr (Or.inr (Or.inr (Or.inr (Or.inr (Or.inr (Or.inr (Or.inr (Or.inr (Or.inr (Or.inr (Or.inr (Or.inr (Or.inl ⟨h.1, h.2.1, h.2.2.1, h.2.2.2⟩))))))))))))))))))))))))))))))))))))))))))))))))))))))))) (fun h => (Or.elim h (fun h => (Or.inr (Or.inr (Or.inr (Or.inr (Or.inr (Or.inr (Or.inr (Or.inr (Or.inr (Or.inr (Or.inr (Or.inr (Or.inr (Or.inr (Or.inr (Or.inr (Or.inr (Or.inr (Or.inr (Or.inr (Or.inr (Or.inr (Or.inr (Or.inr (Or.inr (Or.inr (Or.inr (Or.inr (Or.inr (Or.inr (Or.inr (Or.inr (Or.inr (Or.inr (Or.inr (Or.inr (Or.inr (Or.inr (Or.inr (Or.inr (Or.inr (Or.inr (Or.inr (Or.inr (Or.inr (Or.inr (Or.inr (Or.inr (Or.inr (Or.inr (Or.inr (Or.inr (Or.inr (Or.inr (Or.inr (Or.inr (Or.inl ⟨h.1, h.2.1, h.2.2⟩)))))))))))))))))))))))))))))))))))))))))))))))))))))))))) (fun h => (Or.elim h (fun h => (Or.inr (Or.inr (Or.inr (Or.inr (Or.inr (Or.inr (Or.inr (Or.inr (Or.inr (Or.inr (Or.inr (Or.inr (Or.inr (Or.inr (Or.inr (Or.inr (Or.inr (Or.inr (Or.inr (Or.inr (Or.inr (Or.inr (Or.inr (Or.inr (Or.inr (Or.inr (Or.inr (Or.inr (Or.inr (Or.inr (Or.inr (Or.inr (Or.inr (Or.inr (Or.inr (Or.inr (Or.inr (Or.inr (Or.inr (Or.inr (Or.inr (Or.inr (Or.inr (Or.inr (Or.inr (Or.inr (Or.inr (Or.inr (Or.inr (Or.inr (Or.inr (Or.inr (Or.inr (Or.inr (Or.inr (Or.inr (Or.inr (Or.inl ⟨h.1, h.2.1, h.2.2⟩))))))))))))))))))))))))))))))))))))))))))))))))))))))))))) (fun h => (Or.elim h (fun h => (Or.inr (Or.inr (Or.inr (Or.inr (Or.inr (Or.inr (Or.inr (Or.inr (Or.inr (Or.inr (Or.inr (Or.inr (Or.inr (Or.inr (Or.inr (Or.inr (Or.inr (Or.inr (Or.inr (Or.inr (Or.inr (Or.inr (Or.inr (Or.inr (Or.inr (Or.inr (Or.inr (Or.inr (Or.inr (Or.inr (Or.inr (Or.inr (Or.inr (Or.inr (Or.inr (Or.inr (Or.inr (Or.inr (Or.inr (Or.inr (Or.inr (Or.inr (Or.inr (Or.inr (Or.inr (Or.inr (Or.inr (Or.inr (Or.inr (Or.inr (Or.inr (Or.inr (Or.inr (Or.inr (Or.inr (Or.inr (Or.inr (Or.inr (Or.inl ⟨h.1, h.2.1, h.2.2⟩)))))))))))))))))))))))))))))))))))))))))))))))))))))))))))) (fun h => (Or.elim h (fun h => (Or.inr (Or.inr (Or.inr (Or.inr (Or.inr (Or.inr (Or.inr (Or.inr (Or.inr (Or.inr (Or.inr (Or.inr (Or.inr (Or.inr (Or.inr (Or.inr (Or.inr (Or.inr (Or.inr (Or.inr (Or.inr (Or.inr (Or.inr (Or.inr (Or.inr (Or.inr (Or.inr (Or.inr (Or.inr (Or.inr (Or.inr (Or.inr (Or.inr (Or.inr (Or.inr (Or.inr (Or.inr (Or.inr (Or.inr (Or.inr (Or.inr (Or.inr (Or.inr (Or.inr (Or.inr (Or.inr (Or.inr (Or.inr (Or.inr (Or.inr (Or.inr (Or.inr (Or.inr (Or.inr (Or.inr (Or.inr (Or.inr (Or.inr (Or.inr (Or.inl ⟨h.1, h.2.1, h.2.2⟩))))))))))))))))))))))))))))))))))))))))))))))))))))))))))))) (fun h => (Or.elim h (fun h => (Or.inr (Or.inr (Or.inr (Or.inr (Or.inr (Or.inr (Or.inr (Or.inr (Or.inr (Or.inr (Or.inr (Or.inr (Or.inr (Or.inr (Or.inr (Or.inr (Or.inr (Or.inr (Or.inr (Or.inr (Or.inr (Or.inr (Or.inr (Or.inr (Or.inr (Or.inr (Or.inr (Or.inr (Or.inr (Or.inr (Or.inr (Or.inr (Or.inr (Or.inr (Or.inr (Or.inr (Or.inr (Or.inr (Or.inr (Or.inr (Or.inr (Or.inr (Or.inr (Or.inr (Or.inr (Or.inr (Or.inr (Or.inr (Or.inr (Or.inr (Or.inr (Or.inr (Or.inr (Or.inr (Or.inr (Or.inr (Or.inr (Or.inr (Or.inr (Or.inr (Or.inl ⟨h.1, h.2.1, h.2.2⟩)))))))))))))))))))))))))))))))))))))))))))))))))))))))))))))) (fun h => (Or.elim h (fun h => (Or.inr (Or.inr (Or.inr (Or.inr (Or.inr (Or.inr (Or.inr (Or.inr (Or.inr (Or.inr (Or.inr (Or.inr (Or.inr (Or.inr (Or.inr (Or.inr (Or.inr (Or.inr (Or.inr (Or.inr (Or.inr (Or.inr (Or.inr (Or.inr (Or.inr (Or.inr (Or.inr (Or.inr (Or.inr (Or.inr (Or.inr (Or.inr (Or.inr (Or.inr (Or.inr (Or.inr (Or.inr (Or.inr (Or.inr (Or.inr (Or.inr (Or.inr (Or.inr (Or.inr (Or.inr (Or.inr (Or.inr (Or.inr (Or.inr (Or.inr (Or.inr (Or.inr (Or.inr (Or.inr (Or.inr (Or.inr (Or.inr (Or.inr (Or.inr (Or.inr (Or.inr (Or.inl ⟨h.1, h.2.1, h.2.2.1, h.2.2.2⟩))))))))))))))))))))))))))))))))))))))))))))))))))))))))))))))) (fun h => (Or.elim h (fun h => (Or.inr (Or.inr (Or.inr (Or.inr (Or.inr (Or.inr (Or.inr (Or.inr (Or.inr (Or.inr (Or.inr (Or.inr (Or.inr (Or.inr (Or.inr (Or.inr (Or.inr (Or.inr (Or.inr (Or.inr (Or.inr (Or.inr (Or.inr (Or.inr (Or.inr (Or.inr (Or.inr (Or.inr (Or.inr (Or.inr (Or.inr (Or.inr (Or.inr (Or.inr (Or.inr (Or.inr (Or.inr (Or.inr (Or.inr (Or.inr (Or.inr (Or.inr (Or.inr (Or.inr (Or.inr (Or.inr (Or.inr (Or.inr (Or.inr (Or.inr (Or.inr (Or.inr (Or.inr (Or.inr (Or.inr (Or.inr (Or.inr (Or.inr (Or.inr (Or.inr (Or.inr (Or.inr (Or.inl ⟨h.1, h.2.1, h.2.2⟩)))))))))))))))))))))))))))))))))))))))))))))))))))))))))))))))) (fun h => (Or.elim h (fun h => (Or.inr (Or.inr (Or.inr (Or.inr (Or.inr (Or.inr (Or.inr (Or.inr (Or.inr (Or.inr (Or.inr (Or.inr (Or.inr (Or.inr (Or.inr (Or.inr (Or.inr (Or.inr (Or.inr (Or.inr (Or.inr (Or.inr (Or.inr (Or.inr (Or.inr (Or.inr (Or.inr (Or.inr (Or.inr (Or.inr (Or.inr (Or.inr (Or.inr (Or.inr (Or.inr (Or.inr (Or.inr (Or.inr (Or.inr (Or.inr (Or.inr (Or.inr (Or.inr (Or.inr (Or.inr (Or.inr (Or.inr (Or.inr (Or.inr (Or.inr (Or.inr (Or.inr (Or.inr (Or.inr (Or.inr (Or.inr (Or.inr (Or.inr (Or.inr (Or.inr (Or.inr (Or.inr (Or.inr (Or.inl ⟨h.1, h.2.1, h.2.2⟩))))))))))))))))))))))))))))))))))))))))))))))))))))))))))))))))) (fun h => (Or.inr (Or.inr (Or.inr (Or.inr (Or.inr (Or.inr (Or.inr (Or.inr (Or.inr (Or.inr (Or.inr (Or.inr (Or.inr (Or.inr (Or.inr (Or.inr (Or.inr (Or.inr (Or.inr (Or.inr (Or.inr (Or.inr (Or.inr (Or.inr (Or.inr (Or.inr (Or.inr (Or.inr (Or.inr (Or.inr (Or.inr (Or.inr (Or.inr (Or.inr (Or.inr (Or.inr (Or.inr (Or.inr (Or.inr (Or.inr (Or.inr (Or.inr (Or.inr (Or.inr (Or.inr (Or.inr (Or.inr (Or.inr (Or.inr (Or.inr (Or.inr (Or.inr (Or.inr (Or.inr (Or.inr (Or.inr (Or.inr (Or.inr (Or.inr (Or.inr (Or.inr (Or.inr (Or.inr (Or.inr ⟨h.1, h.2⟩)))))))))))))))))))))))))))))))))))))))))))))))))))))))))))))))))))))))))))))))))))))))))))))))))))))))))))))))))))))))))))))))))) _ _ _ h3) (fun a9 S10 h4 => ?_)
        refine Kf.ite ?_ ?_
        · skip
          exact (zk_O_plan_156 hW hq43 ih) _ _ _ _ _ _ h4
        · skip
          refine Kf.lt (fun v12 => ?_)
          exact (zk_O_plan_156 hW hq43 ih) _ _ _ _ _ _ h4
theorem zk_O_plan_43 {W : Nat → Int → Int → Int → Prop} {S0 : Sg} (hW : ∀ g r k i, zr_O_plan g r k i → W g r k i) : ∀ (n : Nat) (x1 x2 x3 : Int) (S : Sg), Fm W S0 S → Kf W S0 (zf_O_plan_43 n x1 x2 x3 S) := by
  intro n
  induction n with
  | zero => intro x1 x2 x3 S h0; exact Kf.none
  | succ n ih =>
    intro x1 x2 x3 S h0
    rw [zf_O_plan_43]
    refine Kf.ite ?_ ?_
    · skip
      exact Kf.some h0
    · skip
      refine Kf.ite ?_ ?_
      · skip
        exact Kf.some h0
      · skip
        refine Kf.lt (fun v3 => ?_)
        refine Kf.lt (fun v4 => ?_)
        exact (zk_O_plan_74 hW ih) 4096 _ _ _ _ _ _ h0
theorem zk_O_plan {W : Nat → Int → Int → Int → Prop} {S0 : Sg} (hW : ∀ g r k i, zr_O_plan g r k i → W g r k i) : ∀ (S : Sg), Fm W S0 S → Kf W S0 (zf_O_plan S) := by
  intro S h0
  unfold zf_O_plan
  refine Kf.ite ?_ ?_
  · skip
    refine Kf.ite ?_ ?_
    · skip
      exact (zk_O_plan_43 hW) 4096 _ _ _ _ h0
    · skip
      exact Kf.some h0
  · skip
    exact Kf.some h0
def zr_O_image (g : Nat) (r k i : Int) : Prop := (g = 0 ∧ r = 1 ∧ k = 0 ∧ i = 0) ∨ (g = 0 ∧ r = 1 ∧ k = 0 ∧ i = 1) ∨ (g = 0 ∧ r = 1 ∧ k = 0 ∧ i = 2) ∨ (g = 0 ∧ r = 1 ∧ k = 0 ∧ i = 3) ∨ (g = 0 ∧ r = 1 ∧ k = 0 ∧ i = 4) ∨ (g = 0 ∧ r = 1 ∧ k = 0 ∧ i = 5) ∨ (g = 0 ∧ r = 1 ∧ k = 0 ∧ i = 6) ∨ (g = 0 ∧ r = 1 ∧ k = 1) ∨ (g = 0 ∧ r = 1 ∧ k = 10) ∨ (g = 0 ∧ r = 1 ∧ k = 11) ∨ (g = 0 ∧ r = 1 ∧ k = 12) ∨ (g = 0 ∧ r = 1 ∧ k = 13) ∨ (g = 0 ∧ r = 1 ∧ k = 14) ∨ (g = 0 ∧ r = 1 ∧ k = 15) ∨ (g = 0 ∧ r = 1 ∧ k = 16 ∧ i = 0) ∨ (g = 0 ∧ r = 1 ∧ k = 17) ∨ (g = 0 ∧ r = 1 ∧ k = 18) ∨ (g = 0 ∧ r = 1 ∧ k = 19) ∨ (g = 0 ∧ r = 1 ∧ k = 2) ∨ (g = 0 ∧ r = 1 ∧ k = 20) ∨ (g = 0 ∧ r = 1 ∧ k = 21) ∨ (g = 0 ∧ r = 1 ∧ k = 22) ∨ (g = 0 ∧ r = 1 ∧ k = 23) ∨ (g = 0 ∧ r = 1 ∧ k = 24) ∨ (g = 0 ∧ r = 1 ∧ k = 25) ∨ (g = 0 ∧ r = 1 ∧ k = 26 ∧ i = 0) ∨ (g = 0 ∧ r = 1 ∧ k = 27) ∨ (g = 0 ∧ r = 1 ∧ k = 28) ∨ (g = 0 ∧ r = 1 ∧ k = 29) ∨ (g = 0 ∧ r = 1 ∧ k = 3) ∨ (g = 0 ∧ r = 1 ∧ k = 30) ∨ (g = 0 ∧ r = 1 ∧ k = 31 ∧ i = 3) ∨ (g = 0 ∧ r = 1 ∧ k = 32) ∨ (g = 0 ∧ r = 1 ∧ k = 33) ∨ (g = 0 ∧ r = 1 ∧ k = 34) ∨ (g = 0 ∧ r = 1 ∧ k = 35) ∨ (g = 0 ∧ r = 1 ∧ k = 36) ∨ (g = 0 ∧ r = 1 ∧ k = 4) ∨ (g = 0 ∧ r = 1 ∧ k = 5) ∨ (g = 0 ∧ r = 1 ∧ k = 6 ∧ i = 0) ∨ (g = 0 ∧ r = 1 ∧ k = 7) ∨ (g = 0 ∧ r = 1 ∧ k = 8) ∨ (g = 0 ∧ r = 1 ∧ k = 9) ∨ (g = 13 ∧ r = 1 ∧ k = 0) ∨ (g = 13 ∧ r = 1 ∧ k = 1) ∨ (g = 14 ∧ r = 1 ∧ k = 0) ∨ (g = 14 ∧ r = 1 ∧ k = 1) ∨ (g = 3 ∧ r = 0 ∧ k = 0 ∧ i = 3)
theorem zk_O_image {W : Nat → Int → Int → Int → Prop} {S0 : Sg} (hW : ∀ g r k i, zr_O_image g r k i → W g r k i) : ∀ (S : Sg), Fm W S0 S → Kf W S0 (zf_O_image S) := by
  intro S h0
  unfold zf_O_image
  refine Kf.bd ((zk_I_become (r0 := (1)) (r1 := (0)) (fun g r k i h => hW g r k i (Or.elim h (fun h => (Or.inl ⟨h.1, h.2.1, h.2.2.1, h.2.2.2⟩)) (fun h => (Or.elim h (fun h => (Or.inr (Or.inl ⟨h.1, h.2.1, h.2.2.1, h.2.2.2⟩))) (fun h => (Or.elim h (fun h => (Or.inr (Or.inr (Or.inl ⟨h.1, h.2.1, h.2.2.1, h.2.2.2⟩)))) (fun h => (Or.elim h (fun h => (Or.inr (Or.inr (Or.inr (Or.inl ⟨h.1, h.2.1, h.2.2.1, h.2.2.2⟩))))) (fun h => (Or.elim h (fun h => (Or.inr (Or.inr (Or.inr (Or.inr (Or.inl ⟨h.1, h.2.1, h.2.2.1, h.2.2.2⟩)))))) (fun h => (Or.elim h (fun h => (Or.inr (Or.inr (Or.inr (Or.inr (Or.inr (Or.inl ⟨h.1, h.2.1, h.2.2.1, h.2.2.2⟩))))))) (fun h => (Or.elim h (fun h => (Or.inr (Or.inr (Or.inr (Or.inr (Or.inr (Or.inr (Or.inl ⟨h.1, h.2.1, h.2.2.1, h.2.2.2⟩)))))))) (fun h => (Or.elim h (fun h => (Or.inr (Or.inr (Or.inr (Or.inr (Or.inr (Or.inr (Or.inr (Or.inl ⟨h.1, h.2.1, h.2.2⟩))))))))) (fun h => (Or.elim h (fun h => (Or.inr (Or.inr (Or.inr (Or.inr (Or.inr (Or.inr (Or.inr (Or.inr (Or.inl ⟨h.1, h.2.1, h.2.2⟩)))))))))) (fun h => (Or.elim h (fun h => (Or.inr (Or.inr (Or.inr (Or.inr (Or.inr (Or.inr (Or.inr (Or.inr (Or.inr (Or.inl ⟨h.1, h.2.1, h.2.2⟩))))))))))) (fun h => (Or.elim h (fun h => (Or.inr (Or.inr (Or.inr (Or.inr (Or.inr (Or.inr (Or.inr (Or.inr (Or.inr (Or.inr (Or.inl ⟨h.1, h.2.1, h.2.2⟩)))))))))))) (fun h => (Or.elim h (fun h => (Or.inr (Or.inr (Or.inr (Or.inr (Or.inr (Or.inr (Or.inr (Or.inr (Or.inr (Or.inr (Or.inr (Or.inl ⟨h.1, h.2.1, h.2.2⟩))))))))))))) (fun h => (Or.elim h (fun h => (Or.inr (Or.inr (Or.inr (Or.inr (Or.inr (Or.inr (Or.inr (Or.inr (Or.inr (Or.inr (Or.inr (Or.inr (Or.inl ⟨h.1, h.2.1, h.2.2⟩)))))))))))))) (fun h => (Or.elim h (fun h => (Or.inr (Or.inr (Or.inr (Or.inr (Or.inr (Or.inr (Or.inr (Or.inr (Or.inr (Or.inr (Or.inr (Or.inr (Or.inr (Or.inl ⟨h.1, h.2.1, h.2.2⟩))))))))))))))) (fun h => (Or.elim h (fun h => (Or.inr (Or.inr (Or.inr (Or.inr (Or.inr (Or.inr (Or.inr (Or.inr (Or.inr (Or.inr (Or.inr (Or.inr (Or.inr (Or.inr (Or.inl ⟨h.1, h.2.1, h.2.2.1, h.2.2.2⟩)))))))))))))))) (fun h => (Or.elim h (fun h => (Or.inr (Or.inr (Or.inr (Or.inr (Or.inr (Or.inr (Or.inr (Or.inr (Or.inr (Or.inr (Or.inr (Or.inr (Or.inr (Or.inr (Or.inr (Or.inl ⟨h.1, h.2.1, h.2.2⟩))))))))))))))))) (fun h => (Or.elim h (fun h => (Or.inr (Or.inr (Or.inr (Or.inr (Or.inr (Or.inr (Or.inr (Or.inr (Or.inr (Or.inr (Or.inr (Or.inr (Or.inr (Or.inr (Or.inr (Or.inr (Or.inl ⟨h.1, h.2.1, h.2.2⟩)))))))))))))))))) (fun h => (Or.elim h (fun h => (Or.inr (Or.inr (Or.inr (Or.inr (Or.inr (Or.inr (Or.inr (Or.inr (Or.inr (Or.inr (Or.inr (Or.inr (Or.inr (Or.inr (Or.inr (Or.inr (Or.inr (Or.inl ⟨h.1, h.2.1, h.2.2⟩))))))))))))))))))) (fun h => (Or.elim h (fun h => (Or.inr (Or.inr (Or.inr (Or.inr (Or.inr (Or.inr (Or.inr (Or.inr (Or.inr (Or.inr (Or.inr (Or.inr (Or.inr (Or.inr (Or.inr (Or.inr (Or.inr (Or.inr (Or.inl ⟨h.1, h.2.1, h.2.2⟩)))))))))))))))))))) (fun h => (Or.elim h (fun h => (Or.inr (Or.inr (Or.inr (Or.inr (Or.inr (Or.inr (Or.inr (Or.inr (Or.inr (Or.inr (Or.inr (Or.inr (Or.inr (Or.inr (Or.inr (Or.inr (Or.inr (Or.inr (Or.inr (Or.inl ⟨h.1, h.2.1, h.2.2⟩))))))))))))))))))))) (fun h => (Or.elim h (fun h => (Or.inr (Or.inr (Or.inr (Or.inr (Or.inr (Or.inr (Or.inr (Or.inr (Or.inr (Or.inr (Or.inr (Or.inr (Or.inr (Or.inr (Or.inr (Or.inr (Or.inr (Or.inr (Or.inr (Or.inr (Or.inl ⟨h.1, h.2.1, h.2.2⟩)))))))))))))))))))))) (fun h => (Or.elim h (fun h => (Or.inr (Or.inr (Or.inr (Or.inr (Or.inr (Or.inr (Or.inr (Or.inr (Or.inr (Or.inr (Or.inr (Or.inr (Or.inr (Or.inr (Or.inr (Or.inr (Or.inr (Or.inr (Or.inr (Or.inr (Or.inr (Or.inl ⟨h.1, h.2.1, h.2.2⟩))))))))))))))))))))))) (fun h => (Or.elim h (fun h => (Or.inr (Or.inr (Or.inr (Or.inr (Or.inr (Or.inr (Or.inr (Or.inr (Or.inr (Or.inr (Or.inr (Or.inr (Or.inr (Or.inr (Or.inr (Or.inr (Or.inr (Or.inr (Or.inr (Or.inr (Or.inr (Or.inr (Or.inl ⟨h.1, h.2.1, h.2.2⟩)))))))))))))))))))))))) (fun h => (Or.elim h (fun h => (Or.inr (Or.inr (Or.inr (Or.inr (Or.inr (Or.inr (Or.inr (Or.inr (Or.inr (Or.inr (Or.inr (Or.inr (Or.inr (Or.inr (Or.inr (Or.inr (Or.inr (Or.inr (Or.inr (Or.inr (Or.inr (Or.inr (Or.inr (Or.inl ⟨h.1, h.2.1, h.2.2⟩))))))))))))))))))))))))) (fun h => (Or.elim h (fun h => (Or.inr (Or.inr (Or.inr (Or.inr (Or.inr (Or.inr (Or.inr (Or.inr (Or.inr (Or.inr (Or.inr (Or.inr (Or.inr (Or.inr (Or.inr (Or.inr (Or.inr (Or.inr (Or.inr (Or.inr (Or.inr (Or.inr (Or.inr (Or.inr (Or.inl ⟨h.1, h.2.1, h.2.2⟩)))))))))))))))))))))))))) (fun h => (Or.elim h (fun h => (Or.inr (Or.inr (Or.inr (Or.inr (Or.inr (Or.inr (Or.inr (Or.inr (Or.inr (Or.inr (Or.inr (Or.inr (Or.inr (Or.inr (Or.inr (Or.inr (Or.inr (Or.inr (Or.inr (Or.inr (Or.inr (Or.inr (Or.inr (Or.inr (Or.inr (Or.inl ⟨h.1, h.2.1, h.2.2.1, h.2.2.2⟩))))))))))))))))))))))))))) (fun h => (Or.elim h (fun h => (Or.inr (Or.inr (Or.inr (Or.inr (Or.inr (Or.inr (Or.inr (Or.inr (Or.inr (Or.inr (Or.inr (Or.inr (Or.inr (Or.inr (Or.inr (Or.inr (Or.inr (Or.inr (Or.inr (Or.inr (Or.inr (Or.inr (Or.inr (Or.inr (Or.inr (Or.inr (Or.inl ⟨h.1, h.2.1, h.2.2⟩)))))))))))))))))))))))))))) (fun h => (Or.elim h (fun h => (Or.inr (Or.inr (Or.inr (Or.inr (Or.inr (Or.inr (Or.inr (Or.inr (Or.inr (Or.inr (Or.inr (Or.inr (Or.inr (Or.inr (Or.inr (Or.inr (Or.inr (Or.inr (Or.inr (Or.inr (Or.inr (Or.inr (Or.inr (Or.inr (Or.inr (Or.inr (Or.inr (Or.inl ⟨h.1, h.2.1, h.2.2⟩))))))))))))))))))))))))))))) (fun h => (Or.elim h (fun h => (Or.inr (Or.inr (Or.inr (Or.inr (Or.inr (Or.inr (Or.inr (Or.inr (Or.inr (Or.inr (Or.inr (Or.inr (Or.inr (Or.inr (Or.inr (Or.inr (Or.inr (Or.inr (Or.inr (Or.inr (Or.inr (Or.inr (Or.inr (Or.inr (Or.inr (Or.inr (Or.inr (Or.inr (Or.inl ⟨h.1, h.2.1, h.2.2⟩)))))))))))))))))))))))))))))) (fun h => (Or.elim h (fun h => (Or.inr (Or.inr (Or.inr (Or.inr (Or.inr (Or.inr (Or.inr (Or.inr (Or.inr (Or.inr (Or.inr (Or.inr (Or.inr (Or.inr (Or.inr (Or.inr (Or.inr (Or.inr (Or.inr (Or.inr (Or.inr (Or.inr (Or.inr (Or.inr (Or.inr (Or.inr (Or.inr (Or.inr (Or.inr (Or.inl ⟨h.1, h.2.1, h.2.2⟩))))))))))))))))))))))))))))))) (fun h => (Or.elim h (fun h => (Or.inr (Or.inr (Or.inr (Or.inr (Or.inr (Or.inr (Or.inr (Or.inr (Or.inr (Or.inr (Or.inr (Or.inr (Or.inr (Or.inr (Or.inr (Or.inr (Or.inr (Or.inr (Or.inr (Or.inr (Or.inr (Or.inr (Or.inr (Or.inr (Or.inr (Or.inr (Or.inr (Or.inr (Or.inr (Or.inr (Or.inl ⟨h.1, h.2.1, h.2.2⟩)))))))))))))))))))))))))))))))) (fun h => (Or.elim h (fun h => (Or.inr (Or.inr (Or.inr (Or.inr (Or.inr (Or.inr (Or.inr (Or.inr (Or.inr (Or.inr (Or.inr (Or.inr (Or.inr (Or.inr (Or.inr (Or.inr (Or.inr (Or.inr (Or.inr (Or.inr (Or.inr (Or.inr (Or.inr (Or.inr (Or.inr (Or.inr (Or.inr (Or.inr (Or.inr (Or.inr (Or.inr (Or.inl ⟨h.1, h.2.1, h.2.2.1, h.2.2.2⟩))))))))))))))))))))))))))))))))) (fun h => (Or.elim h (fun h => (Or.inr (Or.inr (Or.inr (Or.inr (Or.inr (Or.inr (Or.inr (Or.inr (Or.inr (Or.inr (Or.inr (Or.inr (Or.inr (Or.inr (Or.inr (Or.inr (Or.inr (Or.inr (Or.inr (Or.inr (Or.inr (Or.inr (Or.inr (Or.inr (Or.inr (Or.inr (Or.inr (Or.inr (Or.inr (Or.inr (Or.inr (Or.inr (Or.inl ⟨h.1, h.2.1, h.2.2⟩)))))))))))))))))))))))))))))))))) (fun h => (Or.elim h (fun h => (Or.inr (Or.inr (Or.inr (Or.inr (Or.inr (Or.inr (Or.inr (Or.inr (Or.inr (Or.inr (Or.inr (Or.inr (Or.inr (Or.inr (Or.inr (Or.inr (Or.inr (Or.inr (Or.inr (Or.inr (Or.inr (Or.inr (Or.inr (Or.inr (Or.inr (Or.inr (Or.inr (Or.inr (Or.inr (Or.inr (Or.inr (Or.inr (Or.inr (Or.inl ⟨h.1, h.2.1, h.2.2⟩))))))))))))))))))))))))))))))))))) (fun h => (Or.elim h (fun h => (Or.inr (Or.inr (Or.inr (Or.inr (Or.inr (Or.inr (Or.inr (Or.inr (Or.inr (Or.inr (Or.inr (Or.inr (Or.inr (Or.inr (Or.inr (Or.inr (Or.inr (Or.inr (Or.inr (Or.inr (Or.inr (Or.inr (Or.inr (Or.inr (Or.inr (Or.inr (Or.inr (Or.inr (Or.inr (Or.inr (Or.inr (Or.inr (Or.inr (Or.inr (Or.inl ⟨h.1, h.2.1, h.2.2⟩)))))))))))))))))))))))))))))))))))) (fun h => (Or.elim h (fun h => (Or.inr (Or.inr (Or.inr (Or.inr (Or.inr (Or.inr (Or.inr (Or.inr (Or.inr (Or.inr (Or.inr (Or.inr (Or.inr (Or.inr (Or.inr (Or.inr (Or.inr (Or.inr (Or.inr (Or.inr (Or.inr (Or.inr (Or.inr (Or.inr (Or.inr (Or.inr (Or.inr (Or.inr (Or.inr (Or.inr (Or.inr (Or.inr (Or.inr (Or.inr (Or.inr (Or.inl ⟨h.1, h.2.1, h.2.2⟩))))))))))))))))))))))))))))))))))))) (fun h => (Or.elim h (fun h => (Or.inr (Or.inr (Or.inr (Or.inr (Or.inr (Or.inr (Or.inr (Or.inr (Or.inr (Or.inr (Or.inr (Or.inr (Or.inr (Or.inr (Or.inr (Or.inr (Or.inr (Or.inr (Or.inr (Or.inr (Or.inr (Or.inr (Or.inr (Or.inr (Or.inr (Or.inr (Or.inr (Or.inr (Or.inr (Or.inr (Or.inr (Or.inr (Or.inr (Or.inr (Or.inr (Or.inr (Or.inl ⟨h.1, h.2.1, h.2.2⟩)))))))))))))))))))))))))))))))))))))) (fun h => (Or.elim h (fun h => (Or.inr (Or.inr (Or.inr (Or.inr (Or.inr (Or.inr (Or.inr (Or.inr (Or.inr (Or.inr (Or.inr (Or.inr (Or.inr (Or.inr (Or.inr (Or.inr (Or.inr (Or.inr (Or.inr (Or.inr (Or.inr (Or.inr (Or.inr (Or.inr (Or.inr (Or.inr (Or.inr (Or.inr (Or.inr (Or.inr (Or.inr (Or.inr (Or.inr (Or.inr (Or.inr (Or.inr (Or.inr (Or.inl ⟨h.1, h.2.1, h.2.2⟩))))))))))))))))))))))))))))))))))))))) (fun h => (Or.elim h (fun h => (Or.inr (Or.inr (Or.inr (Or.inr (Or.inr (Or.inr (Or.inr (Or.inr (Or.inr (Or.inr (Or.inr (Or.inr (Or.inr (Or.inr (Or.inr (Or.inr (Or.inr (Or.inr (Or.inr (Or.inr (Or.inr (Or.inr (Or.inr (Or.inr (Or.inr (Or.inr (Or.inr (Or.inr (Or.inr (Or.inr (Or.inr (Or.inr (Or.inr (Or.inr (Or.inr (Or.inr (Or.inr (Or.inr (Or.inl ⟨h.1, h.2.1, h.2.2⟩)))))))))))))))))))))))))))))))))))))))) (fun h => (Or.elim h (fun h => (Or.inr (Or.inr (Or.inr (Or.inr (Or.inr (Or.inr (Or.inr (Or.inr (Or.inr (Or.inr (Or.inr (Or.inr (Or.inr (Or.inr (Or.inr (Or.inr (Or.inr (Or.inr (Or.inr (Or.inr (Or.inr (Or.inr (Or.inr (Or.inr (Or.inr (Or.inr (Or.inr (Or.inr (Or.inr (Or.inr (Or.inr (Or.inr (Or.inr (Or.inr (Or.inr (Or.inr (Or.inr (Or.inr (Or.inr (Or.inl ⟨h.1, h.2.1, h.2.2.1, h.2.2.2⟩))))))))))))))))))))))))))))))))))))))))) (fun h => (Or.elim h (fun h => (Or.inr (Or.inr (Or.inr (Or.inr (Or.inr (Or.inr (Or.inr (Or.inr (Or.inr (Or.inr (Or.inr (Or.inr (Or.inr (Or.inr (Or.inr (Or.inr (Or.inr (Or.inr (Or.inr (Or.inr (Or.inr (Or.inr (Or.inr (Or.inr (Or.inr (Or.inr (Or.inr (Or.inr (Or.inr (Or.inr (Or.inr (Or.inr (Or.inr (Or.inr (Or.inr (Or.inr (Or.inr (Or.inr (Or.inr (Or.inr (Or.inl ⟨h.1, h.2.1, h.2.2⟩)))))))))))))))))))))))))))))))))))))))))) (fun h => (Or.elim h (fun h => (Or.inr (Or.inr (Or.inr (Or.inr (Or.inr (Or.inr (Or.inr (Or.inr (Or.inr (Or.inr (Or.inr (Or.inr (Or.inr (Or.inr (Or.inr (Or.inr (Or.inr (Or.inr (Or.inr (Or.inr (Or.inr (Or.inr (Or.inr (Or.inr (Or.inr (Or.inr (Or.inr (Or.inr (Or.inr (Or.inr (Or.inr (Or.inr (Or.inr (Or.inr (Or.inr (Or.inr (Or.inr (Or.inr (Or.inr (Or.inr (Or.inr (Or.inl ⟨h.1, h.2.1, h.2.2⟩))))))))))))))))))))))))))))))))))))))))))) (fun h => (Or.elim h (fun h => (Or.inr (Or.inr (Or.inr (Or.inr (Or.inr (Or.inr (Or.inr (Or.inr (Or.inr (Or.inr (Or.inr (Or.inr (Or.inr (Or.inr (Or.inr (Or.inr (Or.inr (Or.inr (Or.inr (Or.inr (Or.inr (Or.inr (Or.inr (Or.inr (Or.inr (Or.inr (Or.inr (Or.inr (Or.inr (Or.inr (Or.inr (Or.inr (Or.inr (Or.inr (Or.inr (Or.inr (Or.inr (Or.inr (Or.inr (Or.inr (Or.inr (Or.inr (Or.inl ⟨h.1, h.2.1, h.2.2⟩)))))))))))))))))))))))))))))))))))))))))))) (fun h => (Or.elim h (fun h => (Or.inr (Or.inr (Or.inr (Or.inr (Or.inr (Or.inr (Or.inr (Or.inr (Or.inr (Or.inr (Or.inr (Or.inr (Or.inr (Or.inr (Or.inr (Or.inr (Or.inr (Or.inr (Or.inr (Or.inr (Or.inr (Or.inr (Or.inr (Or.inr (Or.inr (Or.inr (Or.inr (Or.inr (Or.inr (Or.inr (Or.inr (Or.inr (Or.inr (Or.inr (Or.inr (Or.inr (Or.inr (Or.inr (Or.inr (Or.inr (Or.inr (Or.inr (Or.inr (Or.inl ⟨h.1, h.2.1, h.2.2⟩))))))))))))))))))))))))))))))))))))))))))))) (fun h => (Or.elim h (fun h => (Or.inr (Or.inr (Or.inr (Or.inr (Or.inr (Or.inr (Or.inr (Or.inr (Or.inr (Or.inr (Or.inr (Or.inr (Or.inr (Or.inr (Or.inr (Or.inr (Or.inr (Or.inr (Or.inr (Or.inr (Or.inr (Or.inr (Or.inr (Or.inr (Or.inr (Or.inr (Or.inr (Or.inr (Or.inr (Or.inr (Or.inr (Or.inr (Or.inr (Or.inr (Or.inr (Or.inr (Or.inr (Or.inr (Or.inr (Or.inr (Or.inr (Or.inr (Or.inr (Or.inr (Or.inl ⟨h.1, h.2.1, h.2.2⟩)))))))))))))))))))))))))))))))))))))))))))))) (fun h => (Or.elim h (fun h => (Or.inr (Or.inr (Or.inr (Or.inr (Or.inr (Or.inr (Or.inr (Or.inr (Or.inr (Or.inr (Or.inr (Or.inr (Or.inr (Or.inr (Or.inr (Or.inr (Or.inr (Or.inr (Or.inr (Or.inr (Or.inr (Or.inr (Or.inr (Or.inr (Or.inr (Or.inr (Or.inr (Or.inr (Or.inr (Or.inr (Or.inr (Or.inr (Or.inr (Or.inr (Or.inr (Or.inr (Or.inr (Or.inr (Or.inr (Or.inr (Or.inr (Or.inr (Or.inr (Or.inr (Or.inr (Or.inl ⟨h.1, h.2.1, h.2.2⟩))))))))))))))))))))))))))))))))))))))))))))))) (fun h => (Or.inr (Or.inr (Or.inr (Or.inr (Or.inr (Or.inr (Or.inr (Or.inr (Or.inr (Or.inr (Or.inr (Or.inr (Or.inr (Or.inr (Or.inr (Or.inr (Or.inr (Or.inr (Or.inr (Or.inr (Or.inr (Or.inr (Or.inr (Or.inr (Or.inr (Or.inr (Or.inr (Or.inr (Or.inr (Or.inr (Or.inr (Or.inr (Or.inr (Or.inr (Or.inr (Or.inr (Or.inr (Or.inr (Or.inr (Or.inr (Or.inr (Or.inr (Or.inr (Or.inr (Or.inr (Or.inr (Or.inl ⟨h.1, h.2.1, h.2.2⟩))))))))))))))))))))))))))))))))))))))))))))))))))))))))))))))))))))))))))))))))))))))))))))))))))))))))))))))))))))))))))))))))))))))))))))) _ h0) (fun a1 S2 h1 => ?_)
  refine Kf.put h1 (hW _ _ _ _ (Or.inr (Or.inr (Or.inr (Or.inr (Or.inr (Or.inr (Or.inr (Or.inr (Or.inr (Or.inr (Or.inr (Or.inr (Or.inr (Or.inr (Or.inr (Or.inr (Or.inr (Or.inr (Or.inr (Or.inr (Or.inr (Or.inr (Or.inr (Or.inr (Or.inr (Or.inr (Or.inr (Or.inr (Or.inr (Or.inr (Or.inr (Or.inr (Or.inr (Or.inr (Or.inr (Or.inr (Or.inr (Or.inr (Or.inr (Or.inr (Or.inr (Or.inr (Or.inr (Or.inr (Or.inr (Or.inr (Or.inr ⟨rfl, rfl, rfl, rfl⟩)))))))))))))))))))))))))))))))))))))))))))))))) (fun S3 h2 => ?_)
  exact Kf.some h2
def zr_O_restore (g : Nat) (r k i : Int) : Prop := (g = 0 ∧ r = 0 ∧ k = 0 ∧ i = 0) ∨ (g = 0 ∧ r = 0 ∧ k = 0 ∧ i = 1) ∨ (g = 0 ∧ r = 0 ∧ k = 0 ∧ i = 2) ∨ (g = 0 ∧ r = 0 ∧ k = 0 ∧ i = 3) ∨ (g = 0 ∧ r = 0 ∧ k = 0 ∧ i = 4) ∨ (g = 0 ∧ r = 0 ∧ k = 0 ∧ i = 5) ∨ (g = 0 ∧ r = 0 ∧ k = 0 ∧ i = 6) ∨ (g = 0 ∧ r = 0 ∧ k = 1) ∨ (g = 0 ∧ r = 0 ∧ k = 10) ∨ (g = 0 ∧ r = 0 ∧ k = 11) ∨ (g = 0 ∧ r = 0 ∧ k = 12) ∨ (g = 0 ∧ r = 0 ∧ k = 13) ∨ (g = 0 ∧ r = 0 ∧ k = 14) ∨ (g = 0 ∧ r = 0 ∧ k = 15) ∨ (g = 0 ∧ r = 0 ∧ k = 16 ∧ i = 0) ∨ (g = 0 ∧ r = 0 ∧ k = 17) ∨ (g = 0 ∧ r = 0 ∧ k = 18) ∨ (g = 0 ∧ r = 0 ∧ k = 19) ∨ (g = 0 ∧ r = 0 ∧ k = 2) ∨ (g = 0 ∧ r = 0 ∧ k = 20) ∨ (g = 0 ∧ r = 0 ∧ k = 21) ∨ (g = 0 ∧ r = 0 ∧ k = 22) ∨ (g = 0 ∧ r = 0 ∧ k = 23) ∨ (g = 0 ∧ r = 0 ∧ k = 24) ∨ (g = 0 ∧ r = 0 ∧ k = 25) ∨ (g = 0 ∧ r = 0 ∧ k = 26 ∧ i = 0) ∨ (g = 0 ∧ r = 0 ∧ k = 27) ∨ (g = 0 ∧ r = 0 ∧ k = 28) ∨ (g = 0 ∧ r = 0 ∧ k = 29) ∨ (g = 0 ∧ r = 0 ∧ k = 3) ∨ (g = 0 ∧ r = 0 ∧ k = 30) ∨ (g = 0 ∧ r = 0 ∧ k = 31 ∧ i = 3) ∨ (g = 0 ∧ r = 0 ∧ k = 32) ∨ (g = 0 ∧ r = 0 ∧ k = 33) ∨ (g = 0 ∧ r = 0 ∧ k = 34) ∨ (g = 0 ∧ r = 0 ∧ k = 35) ∨ (g = 0 ∧ r = 0 ∧ k = 36) ∨ (g = 0 ∧ r = 0 ∧ k = 4) ∨ (g = 0 ∧ r = 0 ∧ k = 5) ∨ (g = 0 ∧ r = 0 ∧ k = 6 ∧ i = 0) ∨ (g = 0 ∧ r = 0 ∧ k = 7) ∨ (g = 0 ∧ r = 0 ∧ k = 8) ∨ (g = 0 ∧ r = 0 ∧ k = 9) ∨ (g = 13 ∧ r = 0 ∧ k = 0) ∨ (g = 13 ∧ r = 0 ∧ k = 1) ∨ (g = 14 ∧ r = 0 ∧ k = 0) ∨ (g = 14 ∧ r = 0 ∧ k = 1)
theorem zk_O_restore {W : Nat → Int → Int → Int → Prop} {S0 : Sg} (hW : ∀ g r k i, zr_O_restore g r k i → W g r k i) : ∀ (S : Sg), Fm W S0 S → Kf W S0 (zf_O_restore S) := by
  intro S h0
  unfold zf_O_restore
  refine Kf.ite ?_ ?_
  · skip
    exact Kf.some h0
  · skip
    refine Kf.bd ((zk_I_become (r0 := (0)) (r1 := (1)) (fun g r k i h => hW g r k i (Or.elim h (fun h => (Or.inl ⟨h.1, h.2.1, h.2.2.1, h.2.2.2⟩)) (fun h => (Or.elim h (fun h => (Or.inr (Or.inl ⟨h.1, h.2.1, h.2.2.1, h.2.2.2⟩))) (fun h => (Or.elim h (fun h => (Or.inr (Or.inr (Or.inl ⟨h.1, h.2.1, h.2.2.1, h.2.2.2⟩)))) (fun h => (Or.elim h (fun h => (Or.inr (Or.inr (Or.inr (Or.inl ⟨h.1, h.2.1, h.2.2.1, h.2.2.2⟩))))) (fun h => (Or.elim h (fun h => (Or.inr (Or.inr (Or.inr (Or.inr (Or.inl ⟨h.1, h.2.1, h.2.2.1, h.2.2.2⟩)))))) (fun h => (Or.elim h (fun h => (Or.inr (Or.inr (Or.inr (Or.inr (Or.inr (Or.inl ⟨h.1, h.2.1, h.2.2.1, h.2.2.2⟩))))))) (fun h => (Or.elim h (fun h => (Or.inr (Or.inr (Or.inr (Or.inr (Or.inr (Or.inr (Or.inl ⟨h.1, h.2.1, h.2.2.1, h.2.2.2⟩)))))))) (fun h => (Or.elim h (fun h => (Or.inr (Or.inr (Or.inr (Or.inr (Or.inr (Or.inr (Or.inr (Or.inl ⟨h.1, h.2.1, h.2.2⟩))))))))) (fun h => (Or.elim h (fun h => (Or.inr (Or.inr (Or.inr (Or.inr (Or.inr (Or.inr (Or.inr (Or.inr (Or.inl ⟨h.1, h.2.1, h.2.2⟩)))))))))) (fun h => (Or.elim h (fun h => (Or.inr (Or.inr (Or.inr (Or.inr (Or.inr (Or.inr (Or.inr (Or.inr (Or.inr (Or.inl ⟨h.1, h.2.1, h.2.2⟩))))))))))) (fun h => (Or.elim h (fun h => (Or.inr (Or.inr (Or.inr (Or.inr (Or.inr (Or.inr (Or.inr (Or.inr (Or.inr (Or.inr (Or.inl ⟨h.1, h.2.1, h.2.2⟩)))))))))))) (fun h => (Or.elim h (fun h => (Or.inr (Or.inr (Or.inr (Or.inr (Or.inr (Or.inr (Or.inr (Or.inr (Or.inr (Or.inr (Or.inr (Or.inl ⟨h.1, h.2.1, h.2.2⟩))))))))))))) (fun h => (Or.elim h (fun h => (Or.inr (Or.inr (Or.inr (Or.inr (Or.inr (Or.inr (Or.inr (Or.inr (Or.inr (Or.inr (Or.inr (Or.inr (Or.inl ⟨h.1, h.2.1, h.2.2⟩)))))))))))))) (fun h => (Or.elim h (fun h => (Or.inr (Or.inr (Or.inr (Or.inr (Or.inr (Or.inr (Or.inr (Or.inr (Or.inr (Or.inr (Or.inr (Or.inr (Or.inr (Or.inl ⟨h.1, h.2.1, h.2.2⟩))))))))))))))) (fun h => (Or.elim h (fun h => (Or.inr (Or.inr (Or.inr (Or.inr (Or.inr (Or.inr (Or.inr (Or.inr (Or.inr (Or.inr (Or.inr (Or.inr (Or.inr (Or.inr (Or.inl ⟨h.1, h.2.1, h.2.2.1, h.2.2.2⟩)))))))))))))))) (fun h => (Or.elim h (fun h => (Or.inr (Or.inr (Or.inr (Or.inr (Or.inr (Or.inr (Or.inr (Or.inr (Or.inr (Or.inr (Or.inr (Or.inr (Or.inr (Or.inr (Or.inr (Or.inl ⟨h.1, h.2.1, h.2.2⟩))))))))))))))))) (fun h => (Or.elim h (fun h => (Or.inr (Or.inr (Or.inr (Or.inr (Or.inr (Or.inr (Or.inr (Or.inr (Or.inr (Or.inr (Or.inr (Or.inr (Or.inr (Or.inr (Or.inr (Or.inr (Or.inl ⟨h.1, h.2.1, h.2.2⟩)))))))))))))))))) (fun h => (Or.elim h (fun h => (Or.inr (Or.inr (Or.inr (Or.inr (Or.inr (Or.inr (Or.inr (Or.inr (Or.inr (Or.inr (Or.inr (Or.inr (Or.inr (Or.inr (Or.inr (Or.inr (Or.inr (Or.inl ⟨h.1, h.2.1, h.2.2⟩))))))))))))))))))) (fun h => (Or.elim h (fun h => (Or.inr (Or.inr (Or.inr (Or.inr (Or.inr (Or.inr (Or.inr (Or.inr (Or.inr (Or.inr (Or.inr (Or.inr (Or.inr (Or.inr (Or.inr (Or.inr (Or.inr (Or.inr (Or.inl ⟨h.1, h.2.1, h.2.2⟩)))))))))))))))))))) (fun h => (Or.elim h (fun h => (Or.inr (Or.inr (Or.inr (Or.inr (Or.inr (Or.inr (Or.inr (Or.inr (Or.inr (Or.inr (Or.inr (Or.inr (Or.inr (Or.inr (Or.inr (Or.inr (Or.inr (Or.inr (Or.inr (Or.inl ⟨h.1, h.2.1, h.2.2⟩))))))))))))))))))))) (fun h => (Or.elim h (fun h => (Or.inr (Or.inr (Or.inr (Or.inr (Or.inr (Or.inr (Or.inr (Or.inr (Or.inr (Or.inr (Or.inr (Or.inr (Or.inr (Or.inr (Or.inr (Or.inr (Or.inr (Or.inr (Or.inr (Or.inr (Or.inl ⟨h.1, h.2.1, h.2.2⟩)))))))))))))))))))))) (fun h => (Or.elim h (fun h => (Or.inr (Or.inr (Or.inr (Or.inr (Or.inr (Or.inr (Or.inr (Or.inr (Or.inr (Or.inr (Or.inr (Or.inr (Or.inr (Or.inr (Or.inr (Or.inr (Or.inr (Or.inr (Or.inr (Or.inr (Or.inr (Or.inl ⟨h.1, h.2.1, h.2.2⟩))))))))))))))))))))))) (fun h => (Or.elim h (fun h => (Or.inr (Or.inr (Or.inr (Or.inr (Or.inr (Or.inr (Or.inr (Or.inr (Or.inr (Or.inr (Or.inr (Or.inr (Or.inr (Or.inr (Or.inr (Or.inr (Or.inr (Or.inr (Or.inr (Or.inr (Or.inr (Or.inr (Or.inl ⟨h.1, h.2.1, h.2.2⟩)))))))))))))))))))))))) (fun h => (Or.elim h (fun h => (Or.inr (Or.inr (Or.inr (Or.inr (Or.inr (Or.inr (Or.inr (Or.inr (Or.inr (Or.inr (Or.inr (Or.inr (Or.inr (Or.inr (Or.inr (Or.inr (Or.inr (Or.inr (Or.inr (Or.inr (Or.inr (Or.inr (Or.inr (Or.inl ⟨h.1, h.2.1, h.2.2⟩))))))))))))))))))))))))) (fun h => (Or.elim h (fun h => (Or.inr (Or.inr (Or.inr (Or.inr (Or.inr (Or.inr (Or.inr (Or.inr (Or.inr (Or.inr (Or.inr (Or.inr (Or.inr (Or.inr (Or.inr (Or.inr (Or.inr (Or.inr (Or.inr (Or.inr (Or.inr (Or.inr (Or.inr (Or.inr (Or.inl ⟨h.1, h.2.1, h.2.2⟩)))))))))))))))))))))))))) (fun h => (Or.elim h (fun h => (Or.inr (Or.inr (Or.inr (Or.inr (Or.inr (Or.inr (Or.inr (Or.inr (Or.inr (Or.inr (Or.inr (Or.inr (Or.inr (Or.inr (Or.inr (Or.inr (Or.inr (Or.inr (Or.inr (Or.inr (Or.inr (Or.inr (Or.inr (Or.inr (Or.inr (Or.inl ⟨h.1, h.2.1, h.2.2.1, h.2.2.2⟩))))))))))))))))))))))))))) (fun h => (Or.elim h (fun h => (Or.inr (Or.inr (Or.inr (Or.inr (Or.inr (Or.inr (Or.inr (Or.inr (Or.inr (Or.inr (Or.inr (Or.inr (Or.inr (Or.inr (Or.inr (Or.inr (Or.inr (Or.inr (Or.inr (Or.inr (Or.inr (Or.inr (Or.inr (Or.inr (Or.inr (Or.inr (Or.inl ⟨h.1, h.2.1, h.2.2⟩)))))))))))))))))))))))))))) (fun h => (Or.elim h (fun h => (Or.inr (Or.inr (Or.inr (Or.inr (Or.inr (Or.inr (Or.inr (Or.inr (Or.inr (Or.inr (Or.inr (Or.inr (Or.inr (Or.inr (Or.inr (Or.inr (Or.inr (Or.inr (Or.inr (Or.inr (Or.inr (Or.inr (Or.inr (Or.inr (Or.inr (Or.inr (Or.inr (Or.inl ⟨h.1, h.2.1, h.2.2⟩))))))))))))))))))))))))))))) (fun h => (Or.elim h (fun h => (Or.inr (Or.inr (Or.inr (Or.inr (Or.inr (Or.inr (Or.inr (Or.inr (Or.inr (Or.inr (Or.inr (Or.inr (Or.inr (Or.inr (Or.inr (Or.inr (Or.inr (Or.inr (Or.inr (Or.inr (Or.inr (Or.inr (Or.inr (Or.inr (Or.inr (Or.inr (Or.inr (Or.inr (Or.inl ⟨h.1, h.2.1, h.2.2⟩)))))))))))))))))))))))))))))) (fun h => (Or.elim h (fun h => (Or.inr (Or.inr (Or.inr (Or.inr (Or.inr (Or.inr (Or.inr (Or.inr (Or.inr (Or.inr (Or.inr (Or.inr (Or.inr (Or.inr (Or.inr (Or.inr (Or.inr (Or.inr (Or.inr (Or.inr (Or.inr (Or.inr (Or.inr (Or.inr (Or.inr (Or.inr (Or.inr (Or.inr (Or.inr (Or.inl ⟨h.1, h.2.1, h.2.2⟩))))))))))))))))))))))))))))))) (fun h => (Or.elim h (fun h => (Or.inr (Or.inr (Or.inr (Or.inr (Or.inr (Or.inr (Or.inr (Or.inr (Or.inr (Or.inr (Or.inr (Or.inr (Or.inr (Or.inr (Or.inr (Or.inr (Or.inr (Or.inr (Or.inr (Or.inr (Or.inr (Or.inr (Or.inr (Or.inr (Or.inr (Or.inr (Or.inr (Or.inr (Or.inr (Or.inr (Or.inl ⟨h.1, h.2.1, h.2.2⟩)))))))))))))))))))))))))))))))) (fun h => (Or.elim h (fun h => (Or.inr (Or.inr (Or.inr (Or.inr (Or.inr (Or.inr (Or.inr (Or.inr (Or.inr (Or.inr (Or.inr (Or.inr (Or.inr (Or.inr (Or.inr (Or.inr (Or.inr (Or.inr (Or.inr (Or.inr (Or.inr (Or.inr (Or.inr (Or.inr (Or.inr (Or.inr (Or.inr (Or.inr (Or.inr (Or.inr (Or.inr (Or.inl ⟨h.1, h.2.1, h.2.2.1, h.2.2.2⟩))))))))))))))))))))))))))))))))) (fun h => (Or.elim h (fun h => (Or.inr (Or.inr (Or.inr (Or.inr (Or.inr (Or.inr (Or.inr (Or.inr (Or.inr (Or.inr (Or.inr (Or.inr (Or.inr (Or.inr (Or.inr (Or.inr (Or.inr (Or.inr (Or.inr (Or.inr (Or.inr (Or.inr (Or.inr (Or.inr (Or.inr (Or.inr (Or.inr (Or.inr (Or.inr (Or.inr (Or.inr (Or.inr (Or.inl ⟨h.1, h.2.1, h.2.2⟩)))))))))))))))))))))))))))))))))) (fun h => (Or.elim h (fun h => (Or.inr (Or.inr (Or.inr (Or.inr (Or.inr (Or.inr (Or.inr (Or.inr (Or.inr (Or.inr (Or.inr (Or.inr (Or.inr (Or.inr (Or.inr (Or.inr (Or.inr (Or.inr (Or.inr (Or.inr (Or.inr (Or.inr (Or.inr (Or.inr (Or.inr (Or.inr (Or.inr (Or.inr (Or.inr (Or.inr (Or.inr (Or.inr (Or.inr (Or.inl ⟨h.1, h.2.1, h.2.2⟩))))))))))))))))))))))))))))))))))) (fun h => (Or.elim h (fun h => (Or.inr (Or.inr (Or.inr (Or.inr (Or.inr (Or.inr (Or.inr (Or.inr (Or.inr (Or.inr (Or.inr (Or.inr (Or.inr (Or.inr (Or.inr (Or.inr (Or.inr (Or.inr (Or.inr (Or.inr (Or.inr (Or.inr (Or.inr (Or.inr (Or.inr (Or.inr (Or.inr (Or.inr (Or.inr (Or.inr (Or.inr (Or.inr (Or.inr (Or.inr (Or.inl ⟨h.1, h.2.1, h.2.2⟩)))))))))))))))))))))))))))))))))))) (fun h => (Or.elim h (fun h => (Or.inr (Or.inr (Or.inr (Or.inr (Or.inr (Or.inr (Or.inr (Or.inr (Or.inr (Or.inr (Or.inr (Or.inr (Or.inr (Or.inr (Or.inr (Or.inr (Or.inr (Or.inr (Or.inr (Or.inr (Or.inr (Or.inr (Or.inr (Or.inr (Or.inr (Or.inr (Or.inr (Or.inr (Or.inr (Or.inr (Or.inr (Or.inr (Or.inr (Or.inr (Or.inr (Or.inl ⟨h.1, h.2.1, h.2.2⟩))))))))))))))))))))))))))))))))))))) (fun h => (Or.elim h (fun h => (Or.inr (Or.inr (Or.inr (Or.inr (Or.inr (Or.inr (Or.inr (Or.inr (Or.inr (Or.inr (Or.inr (Or.inr (Or.inr (Or.inr (Or.inr (Or.inr (Or.inr (Or.inr (Or.inr (Or.inr (Or.inr (Or.inr (Or.inr (Or.inr (Or.inr (Or.inr (Or.inr (Or.inr (Or.inr (Or.inr (Or.inr (Or.inr (Or.inr (Or.inr (Or.inr (Or.inr (Or.inl ⟨h.1, h.2.1, h.2.2⟩)))))))))))))))))))))))))))))))))))))) (fun h => (Or.elim h (fun h => (Or.inr (Or.inr (Or.inr (Or.inr (Or.inr (Or.inr (Or.inr (Or.inr (Or.inr (Or.inr (Or.inr (Or.inr (Or.inr (Or.inr (Or.inr (Or.inr (Or.inr (Or.inr (Or.inr (Or.inr (Or.inr (Or.inr (Or.inr (Or.inr (Or.inr (Or.inr (Or.inr (Or.inr (Or.inr (Or.inr (Or.inr (Or.inr (Or.inr (Or.inr (Or.inr (Or.inr (Or.inr (Or.inl ⟨h.1, h.2.1, h.2.2⟩))))))))))))))))))))))))))))))))))))))) (fun h => (Or.elim h (fun h => (Or.inr (Or.inr (Or.inr (Or.inr (Or.inr (Or.inr (Or.inr (Or.inr (Or.inr (Or.inr (Or.inr (Or.inr (Or.inr (Or.inr (Or.inr (Or.inr (Or.inr (Or.inr (Or.inr (Or.inr (Or.inr (Or.inr (Or.inr (Or.inr (Or.inr (Or.inr (Or.inr (Or.inr (Or.inr (Or.inr (Or.inr (Or.inr (Or.inr (Or.inr (Or.inr (Or.inr (Or.inr (Or.inr (Or.inl ⟨h.1, h.2.1, h.2.2⟩)))))))))))))))))))))))))))))))))))))))) (fun h => (Or.elim h (fun h => (Or.inr (Or.inr (Or.inr (Or.inr (Or.inr (Or.inr (Or.inr (Or.inr (Or.inr (Or.inr (Or.inr (Or.inr (Or.inr (Or.inr (Or.inr (Or.inr (Or.inr (Or.inr (Or.inr (Or.inr (Or.inr (Or.inr (Or.inr (Or.inr (Or.inr (Or.inr (Or.inr (Or.inr (Or.inr (Or.inr (Or.inr (Or.inr (Or.inr (Or.inr (Or.inr (Or.inr (Or.inr (Or.inr (Or.inr (Or.inl ⟨h.1, h.2.1, h.2.2.1, h.2.2.2⟩))))))))))))))))))))))))))))))))))))))))) (fun h => (Or.elim h (fun h => (Or.inr (Or.inr (Or.inr (Or.inr (Or.inr (Or.inr (Or.inr (Or.inr (Or.inr (Or.inr (Or.inr (Or.inr (Or.inr (Or.inr (Or.inr (Or.inr (Or.inr (Or.inr (Or.inr (Or.inr (Or.inr (Or.inr (Or.inr (Or.inr (Or.inr (Or.inr (Or.inr (Or.inr (Or.inr (Or.inr (Or.inr (Or.inr (Or.inr (Or.inr (Or.inr (Or.inr (Or.inr (Or.inr (Or.inr (Or.inr (Or.inl ⟨h.1, h.2.1, h.2.2⟩)))))))))))))))))))))))))))))))))))))))))) (fun h => (Or.elim h (fun h => (Or.inr (Or.inr (Or.inr (Or.inr (Or.inr (Or.inr (Or.inr (Or.inr (Or.inr (Or.inr (Or.inr (Or.inr (Or.inr (Or.inr (Or.inr (Or.inr (Or.inr (Or.inr (Or.inr (Or.inr (Or.inr (Or.inr (Or.inr (Or.inr (Or.inr (Or.inr (Or.inr (Or.inr (Or.inr (Or.inr (Or.inr (Or.inr (Or.inr (Or.inr (Or.inr (Or.inr (Or.inr (Or.inr (Or.inr (Or.inr (Or.inr (Or.inl ⟨h.1, h.2.1, h.2.2⟩))))))))))))))))))))))))))))))))))))))))))) (fun h => (Or.elim h (fun h => (Or.inr (Or.inr (Or.inr (Or.inr (Or.inr (Or.inr (Or.inr (Or.inr (Or.inr (Or.inr (Or.inr (Or.inr (Or.inr (Or.inr (Or.inr (Or.inr (Or.inr (Or.inr (Or.inr (Or.inr (Or.inr (Or.inr (Or.inr (Or.inr (Or.inr (Or.inr (Or.inr (Or.inr (Or.inr (Or.inr (Or.inr (Or.inr (Or.inr (Or.inr (Or.inr (Or.inr (Or.inr (Or.inr (Or.inr (Or.inr (Or.inr (Or.inr (Or.inl ⟨h.1, h.2.1, h.2.2⟩)))))))))))))))))))))))))))))))))))))))))))) (fun h => (Or.elim h (fun h => (Or.inr (Or.inr (Or.inr (Or.inr (Or.inr (Or.inr (Or.inr (Or.inr (Or.inr (Or.inr (Or.inr (Or.inr (Or.inr (Or.inr (Or.inr (Or.inr (Or.inr (Or.inr (Or.inr (Or.inr (Or.inr (Or.inr (Or.inr (Or.inr (Or.inr (Or.inr (Or.inr (Or.inr (Or.inr (Or.inr (Or.inr (Or.inr (Or.inr (Or.inr (Or.inr (Or.inr (Or.inr (Or.inr (Or.inr (Or.inr (Or.inr (Or.inr (Or.inr (Or.inl ⟨h.1, h.2.1, h.2.2⟩))))))))))))))))))))))))))))))))))))))))))))) (fun h => (Or.elim h (fun h => (Or.inr (Or.inr (Or.inr (Or.inr (Or.inr (Or.inr (Or.inr (Or.inr (Or.inr (Or.inr (Or.inr (Or.inr (Or.inr (Or.inr (Or.inr (Or.inr (Or.inr (Or.inr (Or.inr (Or.inr (Or.inr (Or.inr (Or.inr (Or.inr (Or.inr (Or.inr (Or.inr (Or.inr (Or.inr (Or.inr (Or.inr (Or.inr (Or.inr (Or.inr (Or.inr (Or.inr (Or.inr (Or.inr (Or.inr (Or.inr (Or.inr (Or.inr (Or.inr (Or.inr (Or.inl ⟨h.1, h.2.1, h.2.2⟩)))))))))))))))))))))))))))))))))))))))))))))) (fun h => (Or.elim h (fun h => (Or.inr (Or.inr (Or.inr (Or.inr (Or.inr (Or.inr (Or.inr (Or.inr (Or.inr (Or.inr (Or.inr (Or.inr (Or.inr (Or.inr (Or.inr (Or.inr (Or.inr (Or.inr (Or.inr (Or.inr (Or.inr (Or.inr (Or.inr (Or.inr (Or.inr (Or.inr (Or.inr (Or.inr (Or.inr (Or.inr (Or.inr (Or.inr (Or.inr (Or.inr (Or.inr (Or.inr (Or.inr (Or.inr (Or.inr (Or.inr (Or.inr (Or.inr (Or.inr (Or.inr (Or.inr (Or.inl ⟨h.1, h.2.1, h.2.2⟩))))))))))))))))))))))))))))))))))))))))))))))) (fun h => (Or.inr (Or.inr (Or.inr (Or.inr (Or.inr (Or.inr (Or.inr (Or.inr (Or.inr (Or.inr (Or.inr (Or.inr (Or.inr (Or.inr (Or.inr (Or.inr (Or.inr (Or.inr (Or.inr (Or.inr (Or.inr (Or.inr (Or.inr (Or.inr (Or.inr (Or.inr (Or.inr (Or.inr (Or.inr (Or.inr (Or.inr (Or.inr (Or.inr (Or.inr (Or.inr (Or.inr (Or.inr (Or.inr (Or.inr (Or.inr (Or.inr (Or.inr (Or.inr (Or.inr (Or.inr (Or.inr ⟨h.1, h.2.1, h.2.2⟩)))))))))))))))))))))))))))))))))))))))))))))))))))))))))))))))))))))))))))))))))))))))))))))))))))))))))))))))))))))))))))))))))))))))))))) _ h0) (fun a2 S3 h1 => ?_)
    exact Kf.some h1
def zr_O_count (g : Nat) (r k i : Int) : Prop := (g = 3 ∧ r = 0 ∧ k = 7 ∧ i = 2) ∨ (g = 3 ∧ r = 0 ∧ k = 8) ∨ (g = 3 ∧ r = 0 ∧ k = 9)
theorem zk_O_count {W : Nat → Int → Int → Int → Prop} {S0 : Sg} (hW : ∀ g r k i, zr_O_count g r k i → W g r k i) : ∀ (x1 : Int) (S : Sg), Fm W S0 S → Kf W S0 (zf_O_count x1 S) := by
  intro x1 S h0
  unfold zf_O_count
  refine Kf.ite ?_ ?_
  · skip
    exact Kf.some h0
  · skip
    refine Kf.ite ?_ ?_
    · skip
      refine Kf.bd ((zk_P_in (r0 := (0)) (fun _ _ _ _ h => h.elim)) _ _ h0) (fun a3 S4 h1 => ?_)
      exact Kf.some h1
    · skip
      refine Kf.ite ?_ ?_
      · skip
        refine Kf.bd ((zk_P_in (r0 := (0)) (fun _ _ _ _ h => h.elim)) _ _ h0) (fun a6 S7 h2 => ?_)
        exact Kf.some h2
      · skip
        refine Kf.ite ?_ ?_
        · skip
          refine Kf.bd ((zk_P_in (r0 := (0)) (fun _ _ _ _ h => h.elim)) _ _ h0) (fun a9 S10 h3 => ?_)
          exact Kf.some h3
        · skip
          refine Kf.ite ?_ ?_
          · skip
            exact Kf.some h0
          · skip
            refine Kf.ite ?_ ?_
            · skip
              exact Kf.some h0
            · skip
              refine Kf.ite ?_ ?_
              · skip
                exact Kf.some h0
              · skip
                refine Kf.ite ?_ ?_
                · skip
                  exact Kf.some h0
                · skip
                  refine Kf.ite ?_ ?_
                  · skip
                    exact Kf.some h0
                  · skip
                    refine Kf.ite ?_ ?_
                    · skip
                      exact Kf.some h0
                    · skip
                      refine Kf.ite ?_ ?_
                      · skip
                        exact Kf.some h0
                      · skip
                        refine Kf.ite ?_ ?_
                        · skip
                          exact Kf.some h0
                        · skip
                          refine Kf.ite ?_ ?_
                          · skip
                            refine Kf.bd ((zk_J_countVoters (r1 := (0)) (fun g r k i h => hW g r k i (Or.elim h (fun h => (Or.inl ⟨h.1, h.2.1, h.2.2.1, h.2.2.2⟩)) (fun h => (Or.elim h (fun h => (Or.inr (Or.inl ⟨h.1, h.2.1, h.2.2⟩))) (fun h => (Or.inr (Or.inr ⟨h.1, h.2.1, h.2.2⟩)))))))) _ h0) (fun a20 S21 h4 => ?_)
                            exact Kf.some h4
                          · skip
                            refine Kf.ite ?_ ?_
                            · skip
                              refine Kf.bd ((zk_P_needOfAll (r0 := (0)) (fun _ _ _ _ h => h.elim)) _ _ h0) (fun a23 S24 h5 => ?_)
                              exact Kf.some h5
                            · skip
                              refine Kf.ite ?_ ?_
                              · skip
                                refine Kf.ite ?_ ?_
                                · skip
                                  exact Kf.some h0
                                · skip
                                  exact Kf.some h0
                              · skip
                                exact Kf.some h0
def zr_S_takeLaw (r0 : Int) (r1 : Int) (g : Nat) (r k i : Int) : Prop := (g = 2 ∧ r = r0 ∧ k = 0 ∧ i = 0) ∨ (g = 2 ∧ r = r0 ∧ k = 0 ∧ i = 1) ∨ (g = 2 ∧ r = r0 ∧ k = 0 ∧ i = 2) ∨ (g = 2 ∧ r = r0 ∧ k = 0 ∧ i = 3)
theorem zk_S_takeLaw {W : Nat → Int → Int → Int → Prop} {S0 : Sg} {r0 : Int} {r1 : Int} (hW : ∀ g r k i, zr_S_takeLaw r0 r1 g r k i → W g r k i) : ∀ (x2 : Int) (S : Sg), Fm W S0 S → Kf W S0 (zf_S_takeLaw r0 r1 x2 S) := by
  intro x2 S h0
  unfold zf_S_takeLaw
  refine Kf.put h0 (hW _ _ _ _ (Or.inl ⟨rfl, rfl, rfl, rfl⟩)) (fun S1 h1 => ?_)
  refine Kf.put h1 (hW _ _ _ _ (Or.inr (Or.inr (Or.inr ⟨rfl, rfl, rfl, rfl⟩)))) (fun S2 h2 => ?_)
  refine Kf.ck ?_
  refine Kf.put h2 (hW _ _ _ _ (Or.inr (Or.inl ⟨rfl, rfl, rfl, rfl⟩))) (fun S4 h3 => ?_)
  refine Kf.put h3 (hW _ _ _ _ (Or.inr (Or.inr (Or.inl ⟨rfl, rfl, rfl, rfl⟩)))) (fun S5 h4 => ?_)
  exact Kf.some h4
def zr_S_takePerson (r0 : Int) (r1 : Int) (g : Nat) (r k i : Int) : Prop := (g = 2 ∧ r = r0 ∧ k = 0 ∧ i = 0) ∨ (g = 2 ∧ r = r0 ∧ k = 0 ∧ i = 1) ∨ (g = 2 ∧ r = r0 ∧ k = 0 ∧ i = 2) ∨ (g = 2 ∧ r = r0 ∧ k = 0 ∧ i = 3)
theorem zk_S_takePerson_83 {W : Nat → Int → Int → Int → Prop} {S0 : Sg} {r0 : Int} {r1 : Int} (hW : ∀ g r k i, zr_S_takePerson r0 r1 g r k i → W g r k i) : ∀ (x4 : Int) (S : Sg), Fm W S0 S → Kf W S0 (zf_S_takePerson_83 r0 r1 x4 S) := by
  intro x4 S h0
  unfold zf_S_takePerson_83
  refine Kf.ite ?_ ?_
  · skip
    refine Kf.put h0 (hW _ _ _ _ (Or.inr (Or.inl ⟨rfl, rfl, rfl, rfl⟩))) (fun S2 h1 => ?_)
    refine Kf.put h1 (hW _ _ _ _ (Or.inr (Or.inr (Or.inl ⟨rfl, rfl, rfl, rfl⟩)))) (fun S3 h2 => ?_)
    exact Kf.some h2
  · skip
    exact Kf.some h0
theorem zk_S_takePerson_59 {W : Nat → Int → Int → Int → Prop} {S0 : Sg} {r0 : Int} {r1 : Int} (hW : ∀ g r k i, zr_S_takePerson r0 r1 g r k i → W g r k i) : ∀ (x2 : Int) (x3 : Int) (x4 : Int) (xt1 : Int) (S : Sg), Fm W S0 S → Kf W S0 (zf_S_takePerson_59 r0 r1 x2 x3 x4 xt1 S) := by
  intro x2 x3 x4 xt1 S h0
  unfold zf_S_takePerson_59
  refine Kf.put h0 (hW _ _ _ _ (Or.inr (Or.inr (Or.inl ⟨rfl, rfl, rfl, rfl⟩)))) (fun S1 h1 => ?_)
  refine Kf.ite ?_ ?_
  · skip
    refine Kf.bd ((zk_P_age (r0 := (r1)) (fun _ _ _ _ h => h.elim)) _ _ _ h1) (fun a3 S4 h2 => ?_)
    refine Kf.put h2 (hW _ _ _ _ (Or.inr (Or.inl ⟨rfl, rfl, rfl, rfl⟩))) (fun S6 h3 => ?_)
    exact (zk_S_takePerson_83 (r0 := r0) (r1 := r1) hW) _ _ h3
  · skip
    exact (zk_S_takePerson_83 (r0 := r0) (r1 := r1) hW) _ _ h1
theorem zk_S_takePerson {W : Nat → Int → Int → Int → Prop} {S0 : Sg} {r0 : Int} {r1 : Int} (hW : ∀ g r k i, zr_S_takePerson r0 r1 g r k i → W g r k i) : ∀ (x2 : Int) (x3 : Int) (S : Sg), Fm W S0 S → Kf W S0 (zf_S_takePerson r0 r1 x2 x3 S) := by
  intro x2 x3 S h0
  unfold zf_S_takePerson
  refine Kf.bd ((zk_P_kind (r0 := (r1)) (fun _ _ _ _ h => h.elim)) _ _ _ h0) (fun a1 S2 h1 => ?_)
  refine Kf.put h1 (hW _ _ _ _ (Or.inl ⟨rfl, rfl, rfl, rfl⟩)) (fun S3 h2 => ?_)
  refine Kf.put h2 (hW _ _ _ _ (Or.inr (Or.inr (Or.inr ⟨rfl, rfl, rfl, rfl⟩)))) (fun S4 h3 => ?_)
  refine Kf.bd ((zk_P_needOf (fun _ _ _ _ h => h.elim)) _ _ _ h3) (fun a5 S6 h4 => ?_)
  refine Kf.bd ((zk_P_wageOf (fun _ _ _ _ h => h.elim)) _ _ _ h4) (fun a7 S8 h5 => ?_)
  refine Kf.put h5 (hW _ _ _ _ (Or.inr (Or.inl ⟨rfl, rfl, rfl, rfl⟩))) (fun S9 h6 => ?_)
  refine Kf.ite ?_ ?_
  · skip
    exact (zk_S_takePerson_59 (r0 := r0) (r1 := r1) hW) _ _ _ _ _ h6
  · skip
    refine Kf.ck ?_
    exact (zk_S_takePerson_59 (r0 := r0) (r1 := r1) hW) _ _ _ _ _ h6
def zr_O_keep (g : Nat) (r k i : Int) : Prop := (g = 2 ∧ k = 0 ∧ i = 0) ∨ (g = 2 ∧ k = 0 ∧ i = 1) ∨ (g = 2 ∧ k = 0 ∧ i = 2) ∨ (g = 2 ∧ k = 0 ∧ i = 3)
theorem zk_O_keep {W : Nat → Int → Int → Int → Prop} {S0 : Sg} (hW : ∀ g r k i, zr_O_keep g r k i → W g r k i) : ∀ (x1 : Int) (x2 : Int) (x3 : Int) (S : Sg), Fm W S0 S → Kf W S0 (zf_O_keep x1 x2 x3 S) := by
  intro x1 x2 x3 S h0
  unfold zf_O_keep
  refine Kf.bd ((zk_O_isShelf (fun _ _ _ _ h => h.elim)) _ _ h0) (fun a1 S2 h1 => ?_)
  refine Kf.ite ?_ ?_
  · skip
    exact Kf.some h1
  · skip
    refine Kf.ite ?_ ?_
    · skip
      exact Kf.some h1
    · skip
      refine Kf.ite ?_ ?_
      · skip
        refine Kf.ite ?_ ?_
        · skip
          refine Kf.ck ?_
          refine Kf.put h1 (hW _ _ _ _ (Or.inl ⟨rfl, rfl, rfl⟩)) (fun S23 h2 => ?_)
          exact Kf.some h2
        · skip
          refine Kf.ite ?_ ?_
          · skip
            refine Kf.bd ((zk_L_has (r0 := (0)) (fun _ _ _ _ h => h.elim)) _ _ h1) (fun a16 S17 h3 => ?_)
            refine Kf.ite ?_ ?_
            · skip
              exact Kf.some h3
            · skip
              refine Kf.ck ?_
              refine Kf.bd ((zk_S_takeLaw (r0 := (x1)) (r1 := (0)) (fun g r k i h => hW g r k i (Or.elim h (fun h => (Or.inl ⟨h.1, h.2.2.1, h.2.2.2⟩)) (fun h => (Or.elim h (fun h => (Or.inr (Or.inl ⟨h.1, h.2.2.1, h.2.2.2⟩))) (fun h => (Or.elim h (fun h => (Or.inr (Or.inr (Or.inl ⟨h.1, h.2.2.1, h.2.2.2⟩)))) (fun h => (Or.inr (Or.inr (Or.inr ⟨h.1, h.2.2.1, h.2.2.2⟩))))))))))) _ _ h3) (fun a20 S21 h4 => ?_)
              exact Kf.some h4
          · skip
            refine Kf.bd ((zk_P_has (r0 := (0)) (fun _ _ _ _ h => h.elim)) _ _ h1) (fun a8 S9 h5 => ?_)
            refine Kf.ite ?_ ?_
            · skip
              exact Kf.some h5
            · skip
              refine Kf.ck ?_
              refine Kf.ite ?_ ?_
              · skip
                exact Kf.some h5
              · skip
                refine Kf.ck ?_
                refine Kf.bd ((zk_S_takePerson (r0 := (x1)) (r1 := (0)) (fun g r k i h => hW g r k i (Or.elim h (fun h => (Or.inl ⟨h.1, h.2.2.1, h.2.2.2⟩)) (fun h => (Or.elim h (fun h => (Or.inr (Or.inl ⟨h.1, h.2.2.1, h.2.2.2⟩))) (fun h => (Or.elim h (fun h => (Or.inr (Or.inr (Or.inl ⟨h.1, h.2.2.1, h.2.2.2⟩)))) (fun h => (Or.inr (Or.inr (Or.inr ⟨h.1, h.2.2.1, h.2.2.2⟩))))))))))) _ _ _ h5) (fun a14 S15 h6 => ?_)
                exact Kf.some h6
      · skip
        exact Kf.some h1
def zr_S_takeRow (r0 : Int) (g : Nat) (r k i : Int) : Prop := (g = 2 ∧ r = r0 ∧ k = 0 ∧ i = 0) ∨ (g = 2 ∧ r = r0 ∧ k = 0 ∧ i = 4) ∨ (g = 2 ∧ r = r0 ∧ k = 0 ∧ i = 5) ∨ (g = 2 ∧ r = r0 ∧ k = 1)
theorem zk_S_takeRow {W : Nat → Int → Int → Int → Prop} {S0 : Sg} {r0 : Int} (hW : ∀ g r k i, zr_S_takeRow r0 g r k i → W g r k i) : ∀ (x1 : Int) (x2 : Int) (S : Sg), Fm W S0 S → Kf W S0 (zf_S_takeRow r0 x1 x2 S) := by
  intro x1 x2 S h0
  unfold zf_S_takeRow
  refine Kf.put h0 (hW _ _ _ _ (Or.inl ⟨rfl, rfl, rfl, rfl⟩)) (fun S1 h1 => ?_)
  refine Kf.put h1 (hW _ _ _ _ (Or.inr (Or.inl ⟨rfl, rfl, rfl, rfl⟩))) (fun S2 h2 => ?_)
  refine Kf.put h2 (hW _ _ _ _ (Or.inr (Or.inr (Or.inl ⟨rfl, rfl, rfl, rfl⟩)))) (fun S3 h3 => ?_)
  refine Kf.bd ((zk_Ja_fill (g0 := 2) (r0 := (r0)) (k0 := (1)) (n0 := 120) (fun g r k i h => hW g r k i (Or.inr (Or.inr (Or.inr ⟨h.1, h.2.1, h.2.2⟩))))) _ _ h3) (fun a4 S5 h4 => ?_)
  exact Kf.some h4
def zr_O_row (g : Nat) (r k i : Int) : Prop := (g = 2 ∧ k = 0 ∧ i = 0) ∨ (g = 2 ∧ k = 0 ∧ i = 4) ∨ (g = 2 ∧ k = 0 ∧ i = 5) ∨ (g = 2 ∧ k = 1)
theorem zk_O_row {W : Nat → Int → Int → Int → Prop} {S0 : Sg} (hW : ∀ g r k i, zr_O_row g r k i → W g r k i) : ∀ (x1 : Int) (x2 : Int) (x3 : Int) (S : Sg), Fm W S0 S → Kf W S0 (zf_O_row x1 x2 x3 S) := by
  intro x1 x2 x3 S h0
  unfold zf_O_row
  refine Kf.bd ((zk_O_isShelf (fun _ _ _ _ h => h.elim)) _ _ h0) (fun a1 S2 h1 => ?_)
  refine Kf.ite ?_ ?_
  · skip
    exact Kf.some h1
  · skip
    refine Kf.ite ?_ ?_
    · skip
      exact Kf.some h1
    · skip
      refine Kf.ite ?_ ?_
      · skip
        exact Kf.some h1
      · skip
        refine Kf.ite ?_ ?_
        · skip
          refine Kf.ite ?_ ?_
          · skip
            refine Kf.ck ?_
            refine Kf.bd ((zk_S_takeRow (r0 := (x1)) (fun g r k i h => hW g r k i (Or.elim h (fun h => (Or.inl ⟨h.1, h.2.2.1, h.2.2.2⟩)) (fun h => (Or.elim h (fun h => (Or.inr (Or.inl ⟨h.1, h.2.2.1, h.2.2.2⟩))) (fun h => (Or.elim h (fun h => (Or.inr (Or.inr (Or.inl ⟨h.1, h.2.2.1, h.2.2.2⟩)))) (fun h => (Or.inr (Or.inr (Or.inr ⟨h.1, h.2.2⟩))))))))))) _ _ _ h1) (fun a9 S10 h2 => ?_)
            exact Kf.some h2
          · skip
            exact Kf.some h1
        · skip
          exact Kf.some h1
def zr_S_cut (r0 : Int) (g : Nat) (r k i : Int) : Prop := False
theorem zk_S_cut {W : Nat → Int → Int → Int → Prop} {S0 : Sg} {r0 : Int} (hW : ∀ g r k i, zr_S_cut r0 g r k i → W g r k i) : ∀ (x1 : Int) (S : Sg), Fm W S0 S → Kf W S0 (zf_S_cut r0 x1 S) := by
  intro x1 S h0
  unfold zf_S_cut
  refine Kf.ite ?_ ?_
  · skip
    exact Kf.some h0
  · skip
    refine Kf.ite ?_ ?_
    · skip
      exact Kf.some h0
    · skip
      exact Kf.some h0
def zr_S_hasPlace (r0 : Int) (g : Nat) (r k i : Int) : Prop := False
theorem zk_S_hasPlace {W : Nat → Int → Int → Int → Prop} {S0 : Sg} {r0 : Int} (hW : ∀ g r k i, zr_S_hasPlace r0 g r k i → W g r k i) : ∀ (x1 : Int) (S : Sg), Fm W S0 S → Kf W S0 (zf_S_hasPlace r0 x1 S) := by
  intro x1 S h0
  unfold zf_S_hasPlace
  refine Kf.ite ?_ ?_
  · skip
    exact Kf.some h0
  · skip
    refine Kf.ite ?_ ?_
    · skip
      exact Kf.some h0
    · skip
      refine Kf.ite ?_ ?_
      · skip
        exact Kf.some h0
      · skip
        exact Kf.some h0
def zr_O_put (g : Nat) (r k i : Int) : Prop := (g = 2 ∧ k = 1)
theorem zk_O_put {W : Nat → Int → Int → Int → Prop} {S0 : Sg} (hW : ∀ g r k i, zr_O_put g r k i → W g r k i) : ∀ (x1 : Int) (x2 : Int) (x3 : Int) (S : Sg), Fm W S0 S → Kf W S0 (zf_O_put x1 x2 x3 S) := by
  intro x1 x2 x3 S h0
  unfold zf_O_put
  refine Kf.bd ((zk_O_isShelf (fun _ _ _ _ h => h.elim)) _ _ h0) (fun a1 S2 h1 => ?_)
  refine Kf.ite ?_ ?_
  · skip
    exact Kf.some h1
  · skip
    refine Kf.ck ?_
    refine Kf.ite ?_ ?_
    · skip
      exact Kf.some h1
    · skip
      refine Kf.ite ?_ ?_
      · skip
        refine Kf.bd ((zk_S_hasPlace (r0 := (x1)) (fun _ _ _ _ h => h.elim)) _ _ h1) (fun a7 S8 h2 => ?_)
        refine Kf.ite ?_ ?_
        · skip
          exact Kf.some h2
        · skip
          refine Kf.bd ((zk_S_cut (r0 := (x1)) (fun _ _ _ _ h => h.elim)) _ _ h2) (fun a10 S11 h3 => ?_)
          refine Kf.ck ?_
          refine Kf.put h3 (hW _ _ _ _ ⟨rfl, rfl⟩) (fun S13 h4 => ?_)
          exact Kf.some h4
      · skip
        exact Kf.some h1
def zr_S_hasRun (r0 : Int) (g : Nat) (r k i : Int) : Prop := False
theorem zk_S_hasRun {W : Nat → Int → Int → Int → Prop} {S0 : Sg} {r0 : Int} (hW : ∀ g r k i, zr_S_hasRun r0 g r k i → W g r k i) : ∀ (x1 : Int) (x2 : Int) (S : Sg), Fm W S0 S → Kf W S0 (zf_S_hasRun r0 x1 x2 S) := by
  intro x1 x2 S h0
  unfold zf_S_hasRun
  refine Kf.ite ?_ ?_
  · skip
    exact Kf.some h0
  · skip
    refine Kf.ite ?_ ?_
    · skip
      exact Kf.some h0
    · skip
      refine Kf.ite ?_ ?_
      · skip
        exact Kf.some h0
      · skip
        refine Kf.ite ?_ ?_
        · skip
          exact Kf.some h0
        · skip
          exact Kf.some h0
def zr_O_copy (g : Nat) (r k i : Int) : Prop := (g = 2 ∧ k = 1)
theorem zk_O_copy {W : Nat → Int → Int → Int → Prop} {S0 : Sg} (hW : ∀ g r k i, zr_O_copy g r k i → W g r k i) : ∀ (x1 : Int) (x2 : Int) (x3 : Int) (x4 : Int) (x5 : Int) (S : Sg), Fm W S0 S → Kf W S0 (zf_O_copy x1 x2 x3 x4 x5 S) := by
  intro x1 x2 x3 x4 x5 S h0
  unfold zf_O_copy
  refine Kf.bd ((zk_O_isShelf (fun _ _ _ _ h => h.elim)) _ _ h0) (fun a1 S2 h1 => ?_)
  refine Kf.ite ?_ ?_
  · skip
    exact Kf.some h1
  · skip
    refine Kf.bd ((zk_O_isShelf (fun _ _ _ _ h => h.elim)) _ _ h1) (fun a4 S5 h2 => ?_)
    refine Kf.ite ?_ ?_
    · skip
      exact Kf.some h2
    · skip
      refine Kf.ck ?_
      refine Kf.ck ?_
      refine Kf.ite ?_ ?_
      · skip
        exact Kf.some h2
      · skip
        refine Kf.ite ?_ ?_
        · skip
          exact Kf.some h2
        · skip
          refine Kf.ite ?_ ?_
          · skip
            refine Kf.ite ?_ ?_
            · skip
              refine Kf.ite ?_ ?_
              · skip
                refine Kf.bd ((zk_S_hasRun (r0 := (x1)) (fun _ _ _ _ h => h.elim)) _ _ _ h2) (fun a14 S15 h3 => ?_)
                refine Kf.ite ?_ ?_
                · skip
                  exact Kf.some h3
                · skip
                  refine Kf.bd ((zk_S_hasRun (r0 := (x3)) (fun _ _ _ _ h => h.elim)) _ _ _ h3) (fun a17 S18 h4 => ?_)
                  refine Kf.ite ?_ ?_
                  · skip
                    exact Kf.some h4
                  · skip
                    refine Kf.ck ?_
                    refine Kf.cp h4 (fun j => hW _ _ _ j ⟨rfl, rfl⟩) (fun S21 h5 => ?_)
                    exact Kf.some h5
              · skip
                exact Kf.some h2
            · skip
              exact Kf.some h2
          · skip
            exact Kf.some h2
def zr_O_weight (g : Nat) (r k i : Int) : Prop := False
theorem zk_O_weight {W : Nat → Int → Int → Int → Prop} {S0 : Sg} (hW : ∀ g r k i, zr_O_weight g r k i → W g r k i) : ∀ (x1 : Int) (S : Sg), Fm W S0 S → Kf W S0 (zf_O_weight x1 S) := by
  intro x1 S h0
  unfold zf_O_weight
  refine Kf.bd ((zk_O_isShelf (fun _ _ _ _ h => h.elim)) _ _ h0) (fun a1 S2 h1 => ?_)
  refine Kf.ite ?_ ?_
  · skip
    exact Kf.some h1
  · skip
    refine Kf.ck ?_
    refine Kf.ite ?_ ?_
    · skip
      exact Kf.some h1
    · skip
      refine Kf.ite ?_ ?_
      · skip
        exact Kf.some h1
      · skip
        exact Kf.some h1
def zr_O_toss (g : Nat) (r k i : Int) : Prop := False
theorem zk_O_toss_84 {W : Nat → Int → Int → Int → Prop} {S0 : Sg} (hW : ∀ g r k i, zr_O_toss g r k i → W g r k i) : ∀ (y2 : Int) (S : Sg), Fm W S0 S → Kf W S0 (zf_O_toss_84 y2 S) := by
  intro y2 S h0
  unfold zf_O_toss_84
  exact Kf.some h0
theorem zk_O_toss {W : Nat → Int → Int → Int → Prop} {S0 : Sg} (hW : ∀ g r k i, zr_O_toss g r k i → W g r k i) : ∀ (x1 : Int) (S : Sg), Fm W S0 S → Kf W S0 (zf_O_toss x1 S) := by
  intro x1 S h0
  unfold zf_O_toss
  refine Kf.bd ((zk_O_isShelf (fun _ _ _ _ h => h.elim)) _ _ h0) (fun a1 S2 h1 => ?_)
  refine Kf.ite ?_ ?_
  · skip
    exact Kf.some h1
  · skip
    refine Kf.ck ?_
    refine Kf.ite ?_ ?_
    · skip
      exact Kf.some h1
    · skip
      refine Kf.ite ?_ ?_
      · skip
        exact Kf.some h1
      · skip
        refine Kf.ite ?_ ?_
        · skip
          refine Kf.bd ((zk_L_has (r0 := (0)) (fun _ _ _ _ h => h.elim)) _ _ h1) (fun a8 S9 h2 => ?_)
          refine Kf.ite ?_ ?_
          · skip
            exact (zk_O_toss_84 hW) _ _ h2
          · skip
            refine Kf.ck ?_
            refine Kf.ite ?_ ?_
            · skip
              exact Kf.some h2
            · skip
              exact (zk_O_toss_84 hW) _ _ h2
        · skip
          exact (zk_O_toss_84 hW) _ _ h1
def zr_M_thrown (g : Nat) (r k i : Int) : Prop := False
theorem zk_M_thrown {W : Nat → Int → Int → Int → Prop} {S0 : Sg} (hW : ∀ g r k i, zr_M_thrown g r k i → W g r k i) : ∀ (S : Sg), Fm W S0 S → Kf W S0 (zf_M_thrown S) := by
  intro S h0
  unfold zf_M_thrown
  exact Kf.some h0
def zr_M_comes (g : Nat) (r k i : Int) : Prop := (g = 5 ∧ r = 0 ∧ k = 0 ∧ i = 1) ∨ (g = 5 ∧ r = 0 ∧ k = 1) ∨ (g = 5 ∧ r = 0 ∧ k = 2) ∨ (g = 5 ∧ r = 0 ∧ k = 3) ∨ (g = 5 ∧ r = 0 ∧ k = 4) ∨ (g = 5 ∧ r = 0 ∧ k = 5) ∨ (g = 5 ∧ r = 0 ∧ k = 6) ∨ (g = 5 ∧ r = 0 ∧ k = 7) ∨ (g = 5 ∧ r = 0 ∧ k = 8) ∨ (g = 5 ∧ r = 0 ∧ k = 9)
theorem zk_M_comes {W : Nat → Int → Int → Int → Prop} {S0 : Sg} (hW : ∀ g r k i, zr_M_comes g r k i → W g r k i) : ∀ (x1 : Int) (x2 : Int) (x3 : Int) (x4 : Int) (x5 : Int) (S : Sg), Fm W S0 S → Kf W S0 (zf_M_comes x1 x2 x3 x4 x5 S) := by
  intro x1 x2 x3 x4 x5 S h0
  unfold zf_M_comes
  refine Kf.put h0 (hW _ _ _ _ (Or.inl ⟨rfl, rfl, rfl, rfl⟩)) (fun S1 h1 => ?_)
  refine Kf.lt (fun v3 => ?_)
  refine Kf.ck ?_
  refine Kf.put h1 (hW _ _ _ _ (Or.inr (Or.inl ⟨rfl, rfl, rfl⟩))) (fun S5 h3 => ?_)
  refine Kf.put h3 (hW _ _ _ _ (Or.inr (Or.inr (Or.inl ⟨rfl, rfl, rfl⟩)))) (fun S6 h4 => ?_)
  refine Kf.put h4 (hW _ _ _ _ (Or.inr (Or.inr (Or.inr (Or.inl ⟨rfl, rfl, rfl⟩))))) (fun S7 h5 => ?_)
  refine Kf.put h5 (hW _ _ _ _ (Or.inr (Or.inr (Or.inr (Or.inr (Or.inl ⟨rfl, rfl, rfl⟩)))))) (fun S8 h6 => ?_)
  refine Kf.put h6 (hW _ _ _ _ (Or.inr (Or.inr (Or.inr (Or.inr (Or.inr (Or.inl ⟨rfl, rfl, rfl⟩))))))) (fun S9 h7 => ?_)
  refine Kf.put h7 (hW _ _ _ _ (Or.inr (Or.inr (Or.inr (Or.inr (Or.inr (Or.inr (Or.inl ⟨rfl, rfl, rfl⟩)))))))) (fun S10 h8 => ?_)
  refine Kf.put h8 (hW _ _ _ _ (Or.inr (Or.inr (Or.inr (Or.inr (Or.inr (Or.inr (Or.inr (Or.inl ⟨rfl, rfl, rfl⟩))))))))) (fun S11 h9 => ?_)
  refine Kf.put h9 (hW _ _ _ _ (Or.inr (Or.inr (Or.inr (Or.inr (Or.inr (Or.inr (Or.inr (Or.inr (Or.inl ⟨rfl, rfl, rfl⟩)))))))))) (fun S12 h10 => ?_)
  refine Kf.put h10 (hW _ _ _ _ (Or.inr (Or.inr (Or.inr (Or.inr (Or.inr (Or.inr (Or.inr (Or.inr (Or.inr ⟨rfl, rfl, rfl⟩)))))))))) (fun S13 h11 => ?_)
  exact Kf.some h11
def zr_M_in (g : Nat) (r k i : Int) : Prop := False
theorem zk_M_in {W : Nat → Int → Int → Int → Prop} {S0 : Sg} (hW : ∀ g r k i, zr_M_in g r k i → W g r k i) : ∀ (x0 : Int) (x1 : Int) (x2 : Int) (S : Sg), Fm W S0 S → Kf W S0 (zf_M_in x0 x1 x2 S) := by
  intro x0 x1 x2 S h0
  unfold zf_M_in
  refine Kf.ite ?_ ?_
  · skip
    exact Kf.some h0
  · skip
    refine Kf.ite ?_ ?_
    · skip
      exact Kf.some h0
    · skip
      exact Kf.some h0
def zr_M_isHouse (g : Nat) (r k i : Int) : Prop := False
theorem zk_M_isHouse {W : Nat → Int → Int → Int → Prop} {S0 : Sg} (hW : ∀ g r k i, zr_M_isHouse g r k i → W g r k i) : ∀ (x0 : Int) (S : Sg), Fm W S0 S → Kf W S0 (zf_M_isHouse x0 S) := by
  intro x0 S h0
  unfold zf_M_isHouse
  refine Kf.bd ((zk_M_in (fun _ _ _ _ h => h.elim)) _ _ _ _ h0) (fun a1 S2 h1 => ?_)
  refine Kf.ck ?_
  exact Kf.some h1
def zr_M_isBirth (g : Nat) (r k i : Int) : Prop := False
theorem zk_M_isBirth {W : Nat → Int → Int → Int → Prop} {S0 : Sg} (hW : ∀ g r k i, zr_M_isBirth g r k i → W g r k i) : ∀ (x1 : Int) (x2 : Int) (x3 : Int) (S : Sg), Fm W S0 S → Kf W S0 (zf_M_isBirth x1 x2 x3 S) := by
  intro x1 x2 x3 S h0
  unfold zf_M_isBirth
  refine Kf.bd ((zk_M_in (fun _ _ _ _ h => h.elim)) _ _ _ _ h0) (fun a1 S2 h1 => ?_)
  refine Kf.ite ?_ ?_
  · skip
    exact Kf.some h1
  · skip
    refine Kf.bd ((zk_M_isHouse (fun _ _ _ _ h => h.elim)) _ _ h1) (fun a4 S5 h2 => ?_)
    refine Kf.ite ?_ ?_
    · skip
      exact Kf.some h2
    · skip
      refine Kf.bd ((zk_M_in (fun _ _ _ _ h => h.elim)) _ _ _ _ h2) (fun a7 S8 h3 => ?_)
      refine Kf.ite ?_ ?_
      · skip
        exact Kf.some h3
      · skip
        exact Kf.some h3
def zr_M_isPerson (g : Nat) (r k i : Int) : Prop := False
theorem zk_M_isPerson {W : Nat → Int → Int → Int → Prop} {S0 : Sg} (hW : ∀ g r k i, zr_M_isPerson g r k i → W g r k i) : ∀ (x1 : Int) (S : Sg), Fm W S0 S → Kf W S0 (zf_M_isPerson x1 S) := by
  intro x1 S h0
  unfold zf_M_isPerson
  refine Kf.bd ((zk_M_in (fun _ _ _ _ h => h.elim)) _ _ _ _ h0) (fun a1 S2 h1 => ?_)
  refine Kf.ck ?_
  exact Kf.some h1
def zr_M_person (g : Nat) (r k i : Int) : Prop := (g = 5 ∧ r = 0 ∧ k = 0 ∧ i = 1) ∨ (g = 5 ∧ r = 0 ∧ k = 1) ∨ (g = 5 ∧ r = 0 ∧ k = 2) ∨ (g = 5 ∧ r = 0 ∧ k = 3) ∨ (g = 5 ∧ r = 0 ∧ k = 4) ∨ (g = 5 ∧ r = 0 ∧ k = 5) ∨ (g = 5 ∧ r = 0 ∧ k = 6) ∨ (g = 5 ∧ r = 0 ∧ k = 7) ∨ (g = 5 ∧ r = 0 ∧ k = 8) ∨ (g = 5 ∧ r = 0 ∧ k = 9) ∨ (g = 9 ∧ r = 0 ∧ k = 0 ∧ i = 4)
theorem zk_M_person_62 {W : Nat → Int → Int → Int → Prop} {S0 : Sg} (hW : ∀ g r k i, zr_M_person g r k i → W g r k i) : ∀ (x4 : Int) (xt1 : Int) (xt2 : Int) (xt3 : Int) (S : Sg), Fm W S0 S → Kf W S0 (zf_M_person_62 x4 xt1 xt2 xt3 S) := by
  intro x4 xt1 xt2 xt3 S h0
  unfold zf_M_person_62
  refine Kf.bd ((zk_M_comes (fun g r k i h => hW g r k i (Or.elim h (fun h => (Or.inl ⟨h.1, h.2.1, h.2.2.1, h.2.2.2⟩)) (fun h => (Or.elim h (fun h => (Or.inr (Or.inl ⟨h.1, h.2.1, h.2.2⟩))) (fun h => (Or.elim h (fun h => (Or.inr (Or.inr (Or.inl ⟨h.1, h.2.1, h.2.2⟩)))) (fun h => (Or.elim h (fun h => (Or.inr (Or.inr (Or.inr (Or.inl ⟨h.1, h.2.1, h.2.2⟩))))) (fun h => (Or.elim h (fun h => (Or.inr (Or.inr (Or.inr (Or.inr (Or.inl ⟨h.1, h.2.1, h.2.2⟩)))))) (fun h => (Or.elim h (fun h => (Or.inr (Or.inr (Or.inr (Or.inr (Or.inr (Or.inl ⟨h.1, h.2.1, h.2.2⟩))))))) (fun h => (Or.elim h (fun h => (Or.inr (Or.inr (Or.inr (Or.inr (Or.inr (Or.inr (Or.inl ⟨h.1, h.2.1, h.2.2⟩)))))))) (fun h => (Or.elim h (fun h => (Or.inr (Or.inr (Or.inr (Or.inr (Or.inr (Or.inr (Or.inr (Or.inl ⟨h.1, h.2.1, h.2.2⟩))))))))) (fun h => (Or.elim h (fun h => (Or.inr (Or.inr (Or.inr (Or.inr (Or.inr (Or.inr (Or.inr (Or.inr (Or.inl ⟨h.1, h.2.1, h.2.2⟩)))))))))) (fun h => (Or.inr (Or.inr (Or.inr (Or.inr (Or.inr (Or.inr (Or.inr (Or.inr (Or.inr (Or.inl ⟨h.1, h.2.1, h.2.2⟩)))))))))))))))))))))))))))))) _ _ _ _ _ _ h0) (fun a1 S2 h1 => ?_)
  exact Kf.some h1
theorem zk_M_person_31 {W : Nat → Int → Int → Int → Prop} {S0 : Sg} (hW : ∀ g r k i, zr_M_person g r k i → W g r k i) : ∀ (x1 : Int) (x2 : Int) (x3 : Int) (x4 : Int) (S : Sg), Fm W S0 S → Kf W S0 (zf_M_person_31 x1 x2 x3 x4 S) := by
  intro x1 x2 x3 x4 S h0
  unfold zf_M_person_31
  refine Kf.ite ?_ ?_
  · skip
    exact Kf.some h0
  · skip
    refine Kf.ite ?_ ?_
    · skip
      exact (zk_M_person_62 hW) _ _ _ _ _ h0
    · skip
      exact (zk_M_person_62 hW) _ _ _ _ _ h0
theorem zk_M_person {W : Nat → Int → Int → Int → Prop} {S0 : Sg} (hW : ∀ g r k i, zr_M_person g r k i → W g r k i) : ∀ (x1 : Int) (x2 : Int) (x3 : Int) (x4 : Int) (S : Sg), Fm W S0 S → Kf W S0 (zf_M_person x1 x2 x3 x4 S) := by
  intro x1 x2 x3 x4 S h0
  unfold zf_M_person
  refine Kf.put h0 (hW _ _ _ _ (Or.inr (Or.inr (Or.inr (Or.inr (Or.inr (Or.inr (Or.inr (Or.inr (Or.inr (Or.inr ⟨rfl, rfl, rfl, rfl⟩))))))))))) (fun S1 h1 => ?_)
  refine Kf.bd ((zk_M_isBirth (fun _ _ _ _ h => h.elim)) _ _ _ _ h1) (fun a2 S3 h2 => ?_)
  refine Kf.ite ?_ ?_
  · skip
    exact Kf.some h2
  · skip
    refine Kf.ite ?_ ?_
    · skip
      exact (zk_M_person_31 hW) _ _ _ _ _ h2
    · skip
      refine Kf.bd ((zk_M_isPerson (fun _ _ _ _ h => h.elim)) _ _ h2) (fun a6 S7 h3 => ?_)
      refine Kf.ite ?_ ?_
      · skip
        exact Kf.some h3
      · skip
        exact (zk_M_person_31 hW) _ _ _ _ _ h3
def zr_M_guest (g : Nat) (r k i : Int) : Prop := (g = 5 ∧ r = 0 ∧ k = 0 ∧ i = 1) ∨ (g = 5 ∧ r = 0 ∧ k = 1) ∨ (g = 5 ∧ r = 0 ∧ k = 2) ∨ (g = 5 ∧ r = 0 ∧ k = 3) ∨ (g = 5 ∧ r = 0 ∧ k = 4) ∨ (g = 5 ∧ r = 0 ∧ k = 5) ∨ (g = 5 ∧ r = 0 ∧ k = 6) ∨ (g = 5 ∧ r = 0 ∧ k = 7) ∨ (g = 5 ∧ r = 0 ∧ k = 8) ∨ (g = 5 ∧ r = 0 ∧ k = 9) ∨ (g = 9 ∧ r = 0 ∧ k = 0 ∧ i = 4)
theorem zk_M_guest {W : Nat → Int → Int → Int → Prop} {S0 : Sg} (hW : ∀ g r k i, zr_M_guest g r k i → W g r k i) : ∀ (x1 : Int) (x2 : Int) (x3 : Int) (x4 : Int) (S : Sg), Fm W S0 S → Kf W S0 (zf_M_guest x1 x2 x3 x4 S) := by
  intro x1 x2 x3 x4 S h0
  unfold zf_M_guest
  refine Kf.put h0 (hW _ _ _ _ (Or.inr (Or.inr (Or.inr (Or.inr (Or.inr (Or.inr (Or.inr (Or.inr (Or.inr (Or.inr ⟨rfl, rfl, rfl, rfl⟩))))))))))) (fun S1 h1 => ?_)
  refine Kf.bd ((zk_M_isBirth (fun _ _ _ _ h => h.elim)) _ _ _ _ h1) (fun a2 S3 h2 => ?_)
  refine Kf.ite ?_ ?_
  · skip
    exact Kf.some h2
  · skip
    refine Kf.bd ((zk_M_in (fun _ _ _ _ h => h.elim)) _ _ _ _ h2) (fun a5 S6 h3 => ?_)
    refine Kf.ite ?_ ?_
    · skip
      exact Kf.some h3
    · skip
      refine Kf.ite ?_ ?_
      · skip
        exact Kf.some h3
      · skip
        refine Kf.bd ((zk_M_comes (fun g r k i h => hW g r k i (Or.elim h (fun h => (Or.inl ⟨h.1, h.2.1, h.2.2.1, h.2.2.2⟩)) (fun h => (Or.elim h (fun h => (Or.inr (Or.inl ⟨h.1, h.2.1, h.2.2⟩))) (fun h => (Or.elim h (fun h => (Or.inr (Or.inr (Or.inl ⟨h.1, h.2.1, h.2.2⟩)))) (fun h => (Or.elim h (fun h => (Or.inr (Or.inr (Or.inr (Or.inl ⟨h.1, h.2.1, h.2.2⟩))))) (fun h => (Or.elim h (fun h => (Or.inr (Or.inr (Or.inr (Or.inr (Or.inl ⟨h.1, h.2.1, h.2.2⟩)))))) (fun h => (Or.elim h (fun h => (Or.inr (Or.inr (Or.inr (Or.inr (Or.inr (Or.inl ⟨h.1, h.2.1, h.2.2⟩))))))) (fun h => (Or.elim h (fun h => (Or.inr (Or.inr (Or.inr (Or.inr (Or.inr (Or.inr (Or.inl ⟨h.1, h.2.1, h.2.2⟩)))))))) (fun h => (Or.elim h (fun h => (Or.inr (Or.inr (Or.inr (Or.inr (Or.inr (Or.inr (Or.inr (Or.inl ⟨h.1, h.2.1, h.2.2⟩))))))))) (fun h => (Or.elim h (fun h => (Or.inr (Or.inr (Or.inr (Or.inr (Or.inr (Or.inr (Or.inr (Or.inr (Or.inl ⟨h.1, h.2.1, h.2.2⟩)))))))))) (fun h => (Or.inr (Or.inr (Or.inr (Or.inr (Or.inr (Or.inr (Or.inr (Or.inr (Or.inr (Or.inl ⟨h.1, h.2.1, h.2.2⟩)))))))))))))))))))))))))))))) _ _ _ _ _ _ h3) (fun a9 S10 h4 => ?_)
        exact Kf.some h4
def zr_W_age (r0 : Int) (g : Nat) (r k i : Int) : Prop := False
theorem zk_W_age {W : Nat → Int → Int → Int → Prop} {S0 : Sg} {r0 : Int} (hW : ∀ g r k i, zr_W_age r0 g r k i → W g r k i) : ∀ (x1 : Int) (S : Sg), Fm W S0 S → Kf W S0 (zf_W_age r0 x1 S) := by
  intro x1 S h0
  unfold zf_W_age
  refine Kf.ck ?_
  exact Kf.some h0
def zr_W_kind (r0 : Int) (g : Nat) (r k i : Int) : Prop := False
theorem zk_W_kind {W : Nat → Int → Int → Int → Prop} {S0 : Sg} {r0 : Int} (hW : ∀ g r k i, zr_W_kind r0 g r k i → W g r k i) : ∀ (x1 : Int) (S : Sg), Fm W S0 S → Kf W S0 (zf_W_kind r0 x1 S) := by
  intro x1 S h0
  unfold zf_W_kind
  refine Kf.ck ?_
  refine Kf.ite ?_ ?_
  · skip
    exact Kf.some h0
  · skip
    refine Kf.ite ?_ ?_
    · skip
      exact Kf.some h0
    · skip
      refine Kf.ite ?_ ?_
      · skip
        refine Kf.bd ((zk_W_age (r0 := (r0)) (fun _ _ _ _ h => h.elim)) _ _ h0) (fun a5 S6 h1 => ?_)
        refine Kf.ite ?_ ?_
        · skip
          refine Kf.bd ((zk_W_age (r0 := (r0)) (fun _ _ _ _ h => h.elim)) _ _ h1) (fun a8 S9 h2 => ?_)
          refine Kf.ite ?_ ?_
          · skip
            refine Kf.ite ?_ ?_
            · skip
              exact Kf.some h2
            · skip
              exact Kf.some h2
          · skip
            exact Kf.some h2
        · skip
          exact Kf.some h1
      · skip
        exact Kf.some h0
def zr_M_birth (g : Nat) (r k i : Int) : Prop := (g = 5 ∧ r = 0 ∧ k = 0 ∧ i = 1) ∨ (g = 5 ∧ r = 0 ∧ k = 1) ∨ (g = 5 ∧ r = 0 ∧ k = 2) ∨ (g = 5 ∧ r = 0 ∧ k = 3) ∨ (g = 5 ∧ r = 0 ∧ k = 4) ∨ (g = 5 ∧ r = 0 ∧ k = 5) ∨ (g = 5 ∧ r = 0 ∧ k = 6) ∨ (g = 5 ∧ r = 0 ∧ k = 7) ∨ (g = 5 ∧ r = 0 ∧ k = 8) ∨ (g = 5 ∧ r = 0 ∧ k = 9) ∨ (g = 9 ∧ r = 0 ∧ k = 0 ∧ i = 4)
theorem zk_M_birth_51 {W : Nat → Int → Int → Int → Prop} {S0 : Sg} (hW : ∀ g r k i, zr_M_birth g r k i → W g r k i) : ∀ (x1 : Int) (S : Sg), Fm W S0 S → Kf W S0 (zf_M_birth_51 x1 S) := by
  intro x1 S h0
  unfold zf_M_birth_51
  refine Kf.ck ?_
  refine Kf.bd ((zk_M_comes (fun g r k i h => hW g r k i (Or.elim h (fun h => (Or.inl ⟨h.1, h.2.1, h.2.2.1, h.2.2.2⟩)) (fun h => (Or.elim h (fun h => (Or.inr (Or.inl ⟨h.1, h.2.1, h.2.2⟩))) (fun h => (Or.elim h (fun h => (Or.inr (Or.inr (Or.inl ⟨h.1, h.2.1, h.2.2⟩)))) (fun h => (Or.elim h (fun h => (Or.inr (Or.inr (Or.inr (Or.inl ⟨h.1, h.2.1, h.2.2⟩))))) (fun h => (Or.elim h (fun h => (Or.inr (Or.inr (Or.inr (Or.inr (Or.inl ⟨h.1, h.2.1, h.2.2⟩)))))) (fun h => (Or.elim h (fun h => (Or.inr (Or.inr (Or.inr (Or.inr (Or.inr (Or.inl ⟨h.1, h.2.1, h.2.2⟩))))))) (fun h => (Or.elim h (fun h => (Or.inr (Or.inr (Or.inr (Or.inr (Or.inr (Or.inr (Or.inl ⟨h.1, h.2.1, h.2.2⟩)))))))) (fun h => (Or.elim h (fun h => (Or.inr (Or.inr (Or.inr (Or.inr (Or.inr (Or.inr (Or.inr (Or.inl ⟨h.1, h.2.1, h.2.2⟩))))))))) (fun h => (Or.elim h (fun h => (Or.inr (Or.inr (Or.inr (Or.inr (Or.inr (Or.inr (Or.inr (Or.inr (Or.inl ⟨h.1, h.2.1, h.2.2⟩)))))))))) (fun h => (Or.inr (Or.inr (Or.inr (Or.inr (Or.inr (Or.inr (Or.inr (Or.inr (Or.inr (Or.inl ⟨h.1, h.2.1, h.2.2⟩)))))))))))))))))))))))))))))) _ _ _ _ _ _ h0) (fun a2 S3 h1 => ?_)
  exact Kf.some h1
theorem zk_M_birth {W : Nat → Int → Int → Int → Prop} {S0 : Sg} (hW : ∀ g r k i, zr_M_birth g r k i → W g r k i) : ∀ (x1 : Int) (S : Sg), Fm W S0 S → Kf W S0 (zf_M_birth x1 S) := by
  intro x1 S h0
  unfold zf_M_birth
  refine Kf.put h0 (hW _ _ _ _ (Or.inr (Or.inr (Or.inr (Or.inr (Or.inr (Or.inr (Or.inr (Or.inr (Or.inr (Or.inr ⟨rfl, rfl, rfl, rfl⟩))))))))))) (fun S1 h1 => ?_)
  refine Kf.bd ((zk_M_isPerson (fun _ _ _ _ h => h.elim)) _ _ h1) (fun a2 S3 h2 => ?_)
  refine Kf.ite ?_ ?_
  · skip
    exact Kf.some h2
  · skip
    refine Kf.ite ?_ ?_
    · skip
      exact Kf.some h2
    · skip
      refine Kf.bd ((zk_W_kind (r0 := (0)) (fun _ _ _ _ h => h.elim)) _ _ h2) (fun a6 S7 h3 => ?_)
      refine Kf.ite ?_ ?_
      · skip
        exact (zk_M_birth_51 hW) _ _ h3
      · skip
        refine Kf.ite ?_ ?_
        · skip
          exact (zk_M_birth_51 hW) _ _ h3
        · skip
          exact Kf.some h3
def zr_M_death (g : Nat) (r k i : Int) : Prop := (g = 5 ∧ r = 0 ∧ k = 5) ∨ (g = 9 ∧ r = 0 ∧ k = 0 ∧ i = 4)
theorem zk_M_death {W : Nat → Int → Int → Int → Prop} {S0 : Sg} (hW : ∀ g r k i, zr_M_death g r k i → W g r k i) : ∀ (x1 : Int) (S : Sg), Fm W S0 S → Kf W S0 (zf_M_death x1 S) := by
  intro x1 S h0
  unfold zf_M_death
  refine Kf.put h0 (hW _ _ _ _ (Or.inr ⟨rfl, rfl, rfl, rfl⟩)) (fun S1 h1 => ?_)
  refine Kf.bd ((zk_M_isPerson (fun _ _ _ _ h => h.elim)) _ _ h1) (fun a2 S3 h2 => ?_)
  refine Kf.ite ?_ ?_
  · skip
    exact Kf.some h2
  · skip
    refine Kf.ck ?_
    refine Kf.ite ?_ ?_
    · skip
      exact Kf.some h2
    · skip
      refine Kf.put h2 (hW _ _ _ _ (Or.inl ⟨rfl, rfl, rfl⟩)) (fun S7 h3 => ?_)
      refine Kf.bd ((zk_W_age (r0 := (0)) (fun _ _ _ _ h => h.elim)) _ _ h3) (fun a8 S9 h4 => ?_)
      exact Kf.some h4
def zr_M_back (g : Nat) (r k i : Int) : Prop := (g = 5 ∧ r = 0 ∧ k = 5) ∨ (g = 5 ∧ r = 0 ∧ k = 7) ∨ (g = 9 ∧ r = 0 ∧ k = 0 ∧ i = 4)
theorem zk_M_back {W : Nat → Int → Int → Int → Prop} {S0 : Sg} (hW : ∀ g r k i, zr_M_back g r k i → W g r k i) : ∀ (x1 : Int) (S : Sg), Fm W S0 S → Kf W S0 (zf_M_back x1 S) := by
  intro x1 S h0
  unfold zf_M_back
  refine Kf.put h0 (hW _ _ _ _ (Or.inr (Or.inr ⟨rfl, rfl, rfl, rfl⟩))) (fun S1 h1 => ?_)
  refine Kf.bd ((zk_M_isPerson (fun _ _ _ _ h => h.elim)) _ _ h1) (fun a2 S3 h2 => ?_)
  refine Kf.ite ?_ ?_
  · skip
    exact Kf.some h2
  · skip
    refine Kf.ck ?_
    refine Kf.ite ?_ ?_
    · skip
      refine Kf.put h2 (hW _ _ _ _ (Or.inl ⟨rfl, rfl, rfl⟩)) (fun S7 h3 => ?_)
      refine Kf.put h3 (hW _ _ _ _ (Or.inr (Or.inl ⟨rfl, rfl, rfl⟩))) (fun S8 h4 => ?_)
      refine Kf.bd ((zk_W_age (r0 := (0)) (fun _ _ _ _ h => h.elim)) _ _ h4) (fun a9 S10 h5 => ?_)
      exact Kf.some h5
    · skip
      exact Kf.some h2
def zr_M_skill (g : Nat) (r k i : Int) : Prop := (g = 5 ∧ r = 0 ∧ k = 4) ∨ (g = 9 ∧ r = 0 ∧ k = 0 ∧ i = 4)
theorem zk_M_skill_108 {W : Nat → Int → Int → Int → Prop} {S0 : Sg} (hW : ∀ g r k i, zr_M_skill g r k i → W g r k i) : ∀ (x3 : Int) (x4 : Int) (xt1 : Int) (xt2 : Int) (S : Sg), Fm W S0 S → Kf W S0 (zf_M_skill_108 x3 x4 xt1 xt2 S) := by
  intro x3 x4 xt1 xt2 S h0
  unfold zf_M_skill_108
  refine Kf.ck ?_
  refine Kf.put h0 (hW _ _ _ _ (Or.inl ⟨rfl, rfl, rfl⟩)) (fun S2 h1 => ?_)
  refine Kf.ite ?_ ?_
  · skip
    exact Kf.some h1
  · skip
    exact Kf.some h1
theorem zk_M_skill_63 {W : Nat → Int → Int → Int → Prop} {S0 : Sg} (hW : ∀ g r k i, zr_M_skill g r k i → W g r k i) : ∀ (x1 : Int) (x2 : Int) (x3 : Int) (xt0 : Int) (S : Sg), Fm W S0 S → Kf W S0 (zf_M_skill_63 x1 x2 x3 xt0 S) := by
  intro x1 x2 x3 xt0 S h0
  unfold zf_M_skill_63
  refine Kf.ite ?_ ?_
  · skip
    refine Kf.ck ?_
    exact (zk_M_skill_108 hW) _ _ _ _ _ h0
  · skip
    refine Kf.ck ?_
    exact (zk_M_skill_108 hW) _ _ _ _ _ h0
theorem zk_M_skill {W : Nat → Int → Int → Int → Prop} {S0 : Sg} (hW : ∀ g r k i, zr_M_skill g r k i → W g r k i) : ∀ (x1 : Int) (x2 : Int) (x3 : Int) (S : Sg), Fm W S0 S → Kf W S0 (zf_M_skill x1 x2 x3 S) := by
  intro x1 x2 x3 S h0
  unfold zf_M_skill
  refine Kf.put h0 (hW _ _ _ _ (Or.inr ⟨rfl, rfl, rfl, rfl⟩)) (fun S1 h1 => ?_)
  refine Kf.bd ((zk_M_isPerson (fun _ _ _ _ h => h.elim)) _ _ h1) (fun a2 S3 h2 => ?_)
  refine Kf.ite ?_ ?_
  · skip
    exact Kf.some h2
  · skip
    refine Kf.bd ((zk_M_in (fun _ _ _ _ h => h.elim)) _ _ _ _ h2) (fun a5 S6 h3 => ?_)
    refine Kf.ite ?_ ?_
    · skip
      exact Kf.some h3
    · skip
      refine Kf.ck ?_
      refine Kf.ite ?_ ?_
      · skip
        exact Kf.some h3
      · skip
        refine Kf.ite ?_ ?_
        · skip
          exact (zk_M_skill_63 hW) _ _ _ _ _ h3
        · skip
          exact (zk_M_skill_63 hW) _ _ _ _ _ h3
def zr_W_here (r0 : Int) (g : Nat) (r k i : Int) : Prop := False
theorem zk_W_here {W : Nat → Int → Int → Int → Prop} {S0 : Sg} {r0 : Int} (hW : ∀ g r k i, zr_W_here r0 g r k i → W g r k i) : ∀ (x1 : Int) (S : Sg), Fm W S0 S → Kf W S0 (zf_W_here r0 x1 S) := by
  intro x1 S h0
  unfold zf_W_here
  refine Kf.ck ?_
  refine Kf.ite ?_ ?_
  · skip
    exact Kf.some h0
  · skip
    exact Kf.some h0
def zr_M_move (g : Nat) (r k i : Int) : Prop := (g = 5 ∧ r = 0 ∧ k = 2) ∨ (g = 9 ∧ r = 0 ∧ k = 0 ∧ i = 4)
theorem zk_M_move {W : Nat → Int → Int → Int → Prop} {S0 : Sg} (hW : ∀ g r k i, zr_M_move g r k i → W g r k i) : ∀ (x1 : Int) (x2 : Int) (S : Sg), Fm W S0 S → Kf W S0 (zf_M_move x1 x2 S) := by
  intro x1 x2 S h0
  unfold zf_M_move
  refine Kf.put h0 (hW _ _ _ _ (Or.inr ⟨rfl, rfl, rfl, rfl⟩)) (fun S1 h1 => ?_)
  refine Kf.bd ((zk_M_isPerson (fun _ _ _ _ h => h.elim)) _ _ h1) (fun a2 S3 h2 => ?_)
  refine Kf.ite ?_ ?_
  · skip
    exact Kf.some h2
  · skip
    refine Kf.bd ((zk_M_isHouse (fun _ _ _ _ h => h.elim)) _ _ h2) (fun a5 S6 h3 => ?_)
    refine Kf.ite ?_ ?_
    · skip
      exact Kf.some h3
    · skip
      refine Kf.bd ((zk_W_here (r0 := (0)) (fun _ _ _ _ h => h.elim)) _ _ h3) (fun a8 S9 h4 => ?_)
      refine Kf.ite ?_ ?_
      · skip
        exact Kf.some h4
      · skip
        refine Kf.ck ?_
        refine Kf.lt (fun v12 => ?_)
        refine Kf.put h4 (hW _ _ _ _ (Or.inl ⟨rfl, rfl, rfl⟩)) (fun S13 h6 => ?_)
        exact Kf.some h6
def zr_M_house (g : Nat) (r k i : Int) : Prop := (g = 5 ∧ r = 0 ∧ k = 10) ∨ (g = 5 ∧ r = 0 ∧ k = 12) ∨ (g = 9 ∧ r = 0 ∧ k = 0 ∧ i = 4)
theorem zk_M_house_65 {W : Nat → Int → Int → Int → Prop} {S0 : Sg} (hW : ∀ g r k i, zr_M_house g r k i → W g r k i) : ∀ (x1 : Int) (x2 : Int) (x3 : Int) (xt0 : Int) (S : Sg), Fm W S0 S → Kf W S0 (zf_M_house_65 x1 x2 x3 xt0 S) := by
  intro x1 x2 x3 xt0 S h0
  unfold zf_M_house_65
  refine Kf.ck ?_
  refine Kf.put h0 (hW _ _ _ _ (Or.inl ⟨rfl, rfl, rfl⟩)) (fun S2 h1 => ?_)
  refine Kf.put h1 (hW _ _ _ _ (Or.inr (Or.inl ⟨rfl, rfl, rfl⟩))) (fun S3 h2 => ?_)
  refine Kf.ite ?_ ?_
  · skip
    exact Kf.some h2
  · skip
    exact Kf.some h2
theorem zk_M_house_60 {W : Nat → Int → Int → Int → Prop} {S0 : Sg} (hW : ∀ g r k i, zr_M_house g r k i → W g r k i) : ∀ (x1 : Int) (x2 : Int) (x3 : Int) (S : Sg), Fm W S0 S → Kf W S0 (zf_M_house_60 x1 x2 x3 S) := by
  intro x1 x2 x3 S h0
  unfold zf_M_house_60
  exact (zk_M_house_65 hW) _ _ _ _ _ h0
theorem zk_M_house {W : Nat → Int → Int → Int → Prop} {S0 : Sg} (hW : ∀ g r k i, zr_M_house g r k i → W g r k i) : ∀ (x1 : Int) (x2 : Int) (x3 : Int) (S : Sg), Fm W S0 S → Kf W S0 (zf_M_house x1 x2 x3 S) := by
  intro x1 x2 x3 S h0
  unfold zf_M_house
  refine Kf.put h0 (hW _ _ _ _ (Or.inr (Or.inr ⟨rfl, rfl, rfl, rfl⟩))) (fun S1 h1 => ?_)
  refine Kf.bd ((zk_M_isHouse (fun _ _ _ _ h => h.elim)) _ _ h1) (fun a2 S3 h2 => ?_)
  refine Kf.ite ?_ ?_
  · skip
    exact Kf.some h2
  · skip
    refine Kf.bd ((zk_M_in (fun _ _ _ _ h => h.elim)) _ _ _ _ h2) (fun a5 S6 h3 => ?_)
    refine Kf.ite ?_ ?_
    · skip
      exact Kf.some h3
    · skip
      refine Kf.bd ((zk_M_in (fun _ _ _ _ h => h.elim)) _ _ _ _ h3) (fun a8 S9 h4 => ?_)
      refine Kf.ite ?_ ?_
      · skip
        exact Kf.some h4
      · skip
        refine Kf.ck ?_
        refine Kf.ite ?_ ?_
        · skip
          refine Kf.ite ?_ ?_
          · skip
            exact (zk_M_house_65 hW) _ _ _ _ _ h4
          · skip
            exact (zk_M_house_60 hW) _ _ _ _ h4
        · skip
          exact (zk_M_house_60 hW) _ _ _ _ h4
def zr_W_need (g : Nat) (r k i : Int) : Prop := False
theorem zk_W_need {W : Nat → Int → Int → Int → Prop} {S0 : Sg} (hW : ∀ g r k i, zr_W_need g r k i → W g r k i) : ∀ (x0 : Int) (x1 : Int) (S : Sg), Fm W S0 S → Kf W S0 (zf_W_need x0 x1 S) := by
  intro x0 x1 S h0
  unfold zf_W_need
  refine Kf.ite ?_ ?_
  · skip
    exact Kf.some h0
  · skip
    refine Kf.ite ?_ ?_
    · skip
      exact Kf.some h0
    · skip
      refine Kf.ite ?_ ?_
      · skip
        refine Kf.ite ?_ ?_
        · skip
          exact Kf.some h0
        · skip
          exact Kf.some h0
      · skip
        refine Kf.ite ?_ ?_
        · skip
          exact Kf.some h0
        · skip
          refine Kf.ite ?_ ?_
          · skip
            exact Kf.some h0
          · skip
            refine Kf.ite ?_ ?_
            · skip
              refine Kf.ite ?_ ?_
              · skip
                exact Kf.some h0
              · skip
                exact Kf.some h0
            · skip
              exact Kf.some h0
def zr_W_needOf (r0 : Int) (g : Nat) (r k i : Int) : Prop := False
theorem zk_W_needOf_19 {W : Nat → Int → Int → Int → Prop} {S0 : Sg} {r0 : Int} (hW : ∀ g r k i, zr_W_needOf r0 g r k i → W g r k i) : ∀ (xt0 : Int) (xt1 : Int) (S : Sg), Fm W S0 S → Kf W S0 (zf_W_needOf_19 r0 xt0 xt1 S) := by
  intro xt0 xt1 S h0
  unfold zf_W_needOf_19
  refine Kf.bd ((zk_W_need (fun _ _ _ _ h => h.elim)) _ _ _ h0) (fun a1 S2 h1 => ?_)
  exact Kf.some h1
theorem zk_W_needOf {W : Nat → Int → Int → Int → Prop} {S0 : Sg} {r0 : Int} (hW : ∀ g r k i, zr_W_needOf r0 g r k i → W g r k i) : ∀ (x1 : Int) (S : Sg), Fm W S0 S → Kf W S0 (zf_W_needOf r0 x1 S) := by
  intro x1 S h0
  unfold zf_W_needOf
  refine Kf.bd ((zk_W_kind (r0 := (r0)) (fun _ _ _ _ h => h.elim)) _ _ h0) (fun a1 S2 h1 => ?_)
  refine Kf.ck ?_
  refine Kf.ite ?_ ?_
  · skip
    exact (zk_W_needOf_19 (r0 := r0) hW) _ _ _ h1
  · skip
    exact (zk_W_needOf_19 (r0 := r0) hW) _ _ _ h1
def zr_W_wage (g : Nat) (r k i : Int) : Prop := False
theorem zk_W_wage {W : Nat → Int → Int → Int → Prop} {S0 : Sg} (hW : ∀ g r k i, zr_W_wage g r k i → W g r k i) : ∀ (x0 : Int) (x1 : Int) (S : Sg), Fm W S0 S → Kf W S0 (zf_W_wage x0 x1 S) := by
  intro x0 x1 S h0
  unfold zf_W_wage
  refine Kf.ite ?_ ?_
  · skip
    refine Kf.ite ?_ ?_
    · skip
      exact Kf.some h0
    · skip
      exact Kf.some h0
  · skip
    refine Kf.ite ?_ ?_
    · skip
      exact Kf.some h0
    · skip
      refine Kf.ite ?_ ?_
      · skip
        exact Kf.some h0
      · skip
        refine Kf.ite ?_ ?_
        · skip
          refine Kf.ite ?_ ?_
          · skip
            exact Kf.some h0
          · skip
            exact Kf.some h0
        · skip
          exact Kf.some h0
def zr_W_wageOf (r0 : Int) (g : Nat) (r k i : Int) : Prop := False
theorem zk_W_wageOf_19 {W : Nat → Int → Int → Int → Prop} {S0 : Sg} {r0 : Int} (hW : ∀ g r k i, zr_W_wageOf r0 g r k i → W g r k i) : ∀ (xt0 : Int) (xt1 : Int) (S : Sg), Fm W S0 S → Kf W S0 (zf_W_wageOf_19 r0 xt0 xt1 S) := by
  intro xt0 xt1 S h0
  unfold zf_W_wageOf_19
  refine Kf.bd ((zk_W_wage (fun _ _ _ _ h => h.elim)) _ _ _ h0) (fun a1 S2 h1 => ?_)
  exact Kf.some h1
theorem zk_W_wageOf {W : Nat → Int → Int → Int → Prop} {S0 : Sg} {r0 : Int} (hW : ∀ g r k i, zr_W_wageOf r0 g r k i → W g r k i) : ∀ (x1 : Int) (S : Sg), Fm W S0 S → Kf W S0 (zf_W_wageOf r0 x1 S) := by
  intro x1 S h0
  unfold zf_W_wageOf
  refine Kf.bd ((zk_W_kind (r0 := (r0)) (fun _ _ _ _ h => h.elim)) _ _ h0) (fun a1 S2 h1 => ?_)
  refine Kf.ck ?_
  refine Kf.ite ?_ ?_
  · skip
    exact (zk_W_wageOf_19 (r0 := r0) hW) _ _ _ h1
  · skip
    exact (zk_W_wageOf_19 (r0 := r0) hW) _ _ _ h1
def zr_M_about (g : Nat) (r k i : Int) : Prop := (g = 9 ∧ r = 0 ∧ k = 0 ∧ i = 4)
theorem zk_M_about {W : Nat → Int → Int → Int → Prop} {S0 : Sg} (hW : ∀ g r k i, zr_M_about g r k i → W g r k i) : ∀ (x1 : Int) (x2 : Int) (S : Sg), Fm W S0 S → Kf W S0 (zf_M_about x1 x2 S) := by
  intro x1 x2 S h0
  unfold zf_M_about
  refine Kf.put h0 (hW _ _ _ _ ⟨rfl, rfl, rfl, rfl⟩) (fun S1 h1 => ?_)
  refine Kf.bd ((zk_M_isPerson (fun _ _ _ _ h => h.elim)) _ _ h1) (fun a2 S3 h2 => ?_)
  refine Kf.ite ?_ ?_
  · skip
    exact Kf.some h2
  · skip
    refine Kf.ite ?_ ?_
    · skip
      refine Kf.bd ((zk_W_kind (r0 := (0)) (fun _ _ _ _ h => h.elim)) _ _ h2) (fun a6 S7 h3 => ?_)
      exact Kf.some h3
    · skip
      refine Kf.ite ?_ ?_
      · skip
        refine Kf.bd ((zk_W_age (r0 := (0)) (fun _ _ _ _ h => h.elim)) _ _ h2) (fun a9 S10 h4 => ?_)
        exact Kf.some h4
      · skip
        refine Kf.ite ?_ ?_
        · skip
          refine Kf.ck ?_
          exact Kf.some h2
        · skip
          refine Kf.ite ?_ ?_
          · skip
            refine Kf.ck ?_
            exact Kf.some h2
          · skip
            refine Kf.ite ?_ ?_
            · skip
              refine Kf.ck ?_
              exact Kf.some h2
            · skip
              refine Kf.ite ?_ ?_
              · skip
                refine Kf.ck ?_
                exact Kf.some h2
              · skip
                refine Kf.ite ?_ ?_
                · skip
                  refine Kf.ck ?_
                  exact Kf.some h2
                · skip
                  refine Kf.ite ?_ ?_
                  · skip
                    refine Kf.ck ?_
                    exact Kf.some h2
                  · skip
                    refine Kf.ite ?_ ?_
                    · skip
                      refine Kf.bd ((zk_W_needOf (r0 := (0)) (fun _ _ _ _ h => h.elim)) _ _ h2) (fun a24 S25 h5 => ?_)
                      exact Kf.some h5
                    · skip
                      refine Kf.ite ?_ ?_
                      · skip
                        refine Kf.bd ((zk_W_wageOf (r0 := (0)) (fun _ _ _ _ h => h.elim)) _ _ h2) (fun a27 S28 h6 => ?_)
                        exact Kf.some h6
                      · skip
                        refine Kf.ite ?_ ?_
                        · skip
                          refine Kf.ck ?_
                          exact Kf.some h2
                        · skip
                          exact Kf.some h2
def zr_W_heads (r0 : Int) (g : Nat) (r k i : Int) : Prop := False
theorem zk_W_heads_36 {W : Nat → Int → Int → Int → Prop} {S0 : Sg} {r0 : Int} (hW : ∀ g r k i, zr_W_heads r0 g r k i → W g r k i) {q4 : Int → Int → Int → Sg → Option (Int × Sg)} (hq4 : ∀ (x0 x1 x2 : Int) (S : Sg), Fm W S0 S → Kf W S0 (q4 x0 x1 x2 S)) : ∀ (x1 : Int) (x3 : Int) (xt0 : Int) (xt1 : Int) (S : Sg), Fm W S0 S → Kf W S0 (zf_W_heads_36 r0 q4 x1 x3 xt0 xt1 S) := by
  intro x1 x3 xt0 xt1 S h0
  unfold zf_W_heads_36
  refine Kf.lt (fun v1 => ?_)
  refine Kf.lt (fun v2 => ?_)
  exact hq4 _ _ _ _ h0
theorem zk_W_heads_35 {W : Nat → Int → Int → Int → Prop} {S0 : Sg} {r0 : Int} (hW : ∀ g r k i, zr_W_heads r0 g r k i → W g r k i) {q4 : Int → Int → Int → Sg → Option (Int × Sg)} (hq4 : ∀ (x0 x1 x2 : Int) (S : Sg), Fm W S0 S → Kf W S0 (q4 x0 x1 x2 S)) : ∀ (x1 : Int) (x3 : Int) (xt0 : Int) (S : Sg), Fm W S0 S → Kf W S0 (zf_W_heads_35 r0 q4 x1 x3 xt0 S) := by
  intro x1 x3 xt0 S h0
  unfold zf_W_heads_35
  exact (zk_W_heads_36 (r0 := r0) hW hq4) _ _ _ _ _ h0
theorem zk_W_heads_4 {W : Nat → Int → Int → Int → Prop} {S0 : Sg} {r0 : Int} (hW : ∀ g r k i, zr_W_heads r0 g r k i → W g r k i) : ∀ (n : Nat) (x1 x2 x3 : Int) (S : Sg), Fm W S0 S → Kf W S0 (zf_W_heads_4 r0 n x1 x2 x3 S) := by
  intro n
  induction n with
  | zero => intro x1 x2 x3 S h0; exact Kf.none
  | succ n ih =>
    intro x1 x2 x3 S h0
    rw [zf_W_heads_4]
    refine Kf.ite ?_ ?_
    · skip
      exact Kf.some h0
    · skip
      refine Kf.bd ((zk_W_here (r0 := (r0)) (fun _ _ _ _ h => h.elim)) _ _ h0) (fun a2 S3 h1 => ?_)
      refine Kf.ite ?_ ?_
      · skip
        exact (zk_W_heads_35 (r0 := r0) hW ih) _ _ _ _ h1
      · skip
        refine Kf.ck ?_
        refine Kf.ite ?_ ?_
        · skip
          exact (zk_W_heads_36 (r0 := r0) hW ih) _ _ _ _ _ h1
        · skip
          exact (zk_W_heads_35 (r0 := r0) hW ih) _ _ _ _ h1
theorem zk_W_heads {W : Nat → Int → Int → Int → Prop} {S0 : Sg} {r0 : Int} (hW : ∀ g r k i, zr_W_heads r0 g r k i → W g r k i) : ∀ (x1 : Int) (S : Sg), Fm W S0 S → Kf W S0 (zf_W_heads r0 x1 S) := by
  intro x1 S h0
  unfold zf_W_heads
  exact (zk_W_heads_4 (r0 := r0) hW) 4096 _ _ _ _ h0
def zr_M_home (g : Nat) (r k i : Int) : Prop := (g = 9 ∧ r = 0 ∧ k = 0 ∧ i = 4)
theorem zk_M_home {W : Nat → Int → Int → Int → Prop} {S0 : Sg} (hW : ∀ g r k i, zr_M_home g r k i → W g r k i) : ∀ (x1 : Int) (x2 : Int) (S : Sg), Fm W S0 S → Kf W S0 (zf_M_home x1 x2 S) := by
  intro x1 x2 S h0
  unfold zf_M_home
  refine Kf.put h0 (hW _ _ _ _ ⟨rfl, rfl, rfl, rfl⟩) (fun S1 h1 => ?_)
  refine Kf.bd ((zk_M_isHouse (fun _ _ _ _ h => h.elim)) _ _ h1) (fun a2 S3 h2 => ?_)
  refine Kf.ite ?_ ?_
  · skip
    exact Kf.some h2
  · skip
    refine Kf.ite ?_ ?_
    · skip
      refine Kf.bd ((zk_W_heads (r0 := (0)) (fun _ _ _ _ h => h.elim)) _ _ h2) (fun a6 S7 h3 => ?_)
      exact Kf.some h3
    · skip
      refine Kf.ite ?_ ?_
      · skip
        refine Kf.ck ?_
        exact Kf.some h2
      · skip
        refine Kf.ite ?_ ?_
        · skip
          refine Kf.ck ?_
          exact Kf.some h2
        · skip
          refine Kf.ite ?_ ?_
          · skip
            refine Kf.ck ?_
            exact Kf.some h2
          · skip
            refine Kf.ite ?_ ?_
            · skip
              refine Kf.ck ?_
              exact Kf.some h2
            · skip
              exact Kf.some h2
