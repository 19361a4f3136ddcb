/-! ===== an island and a world become others ===== -/
theorem y_zs {S S2 : Sg} {a b k c : Int} (h : zf_Y_become a k b k S = some (c, S2)) (hz : Zs S) : Zs S2 := by
  unfold zf_Y_become zf_Y_take at h
  rw [zlt_v, zlt_v] at h
  obtain ⟨c1, S3, h1, h2⟩ := zbd_some h
  obtain ⟨-, h1⟩ := zck_some h1
  rw [zlt_v] at h1
  injection h1 with h1
  injection h1 with _ h1
  have h2 : some (0, S3) = some (c, S2) := h2
  injection h2 with h2
  injection h2 with _ h2
  rw [← h2, ← h1]
  intro r k' i
  unfold zcp
  split
  · simp only [zu]
    simp
    exact hz _ _ _
  · simp only [zu]
    simp
    exact hz _ _ _
theorem i_zs {S S2 : Sg} {a b c : Int} (h : zf_I_become a b S = some (c, S2)) (hz : Zs S) : Zs S2 := by
  unfold zf_I_become at h
  simp only [zlt_v] at h
  obtain ⟨_, P, p1, h⟩ := zbd_some h
  obtain ⟨_, L, l1, h⟩ := zbd_some h
  obtain ⟨_, Q, q1, h⟩ := zbd_some h
  obtain ⟨_, T, t1, h⟩ := zbd_some h
  obtain ⟨_, Y, y1, h⟩ := zbd_some h
  obtain ⟨_, Z, z1, h⟩ := zbd_some h
  injection h with h
  injection h with _ h
  rw [← h]
  refine y_zs z1 (y_zs y1 ?_)
  have e1 : T 14 = Q 14 := (zk_T_become (W := fun g _ _ _ => g = 0) (fun g r k i e => by unfold zr_T_become at e; omega) Q (Fm.refl _ _) _ T t1).grp (fun _ _ _ e => by simp at e)
  have e2 : Q 14 = L 14 := (zk_Q_become (W := fun g _ _ _ => g = 0) (fun g r k i e => by unfold zr_Q_become at e; omega) L (Fm.refl _ _) _ Q q1).grp (fun _ _ _ e => by simp at e)
  have e3 : L 14 = P 14 := (zk_L_become (W := fun g _ _ _ => g = 0) (fun g r k i e => by unfold zr_L_become at e; omega) P (Fm.refl _ _) _ L l1).grp (fun _ _ _ e => by simp at e)
  have e4 := (zk_P_become (W := fun g _ _ _ => g = 0) (fun g r k i e => by unfold zr_P_become at e; omega) _ (Fm.refl _ _) _ P p1).grp (g := 14) (fun _ _ _ e => by simp at e)
  intro r k i
  rw [e1, e2, e3, e4]
  simp only [zu, zcp]
  simp
  exact hz r k i
def Bc (a : Int) (S S2 : Sg) : Prop := ∀ (g : Nat) (r k : Int), ¬ (r = a ∧ (g = 0 ∨ g = 13 ∨ g = 14)) → S2 g r k = S g r k
def Bm (a : Int) (T T2 : Sg) : Prop := ∀ (g : Nat) (r k : Int), ¬ (r = a ∧ (g = 5 ∨ g = 6 ∨ g = 7 ∨ g = 8)) → T2 g r k = T g r k
/-- both sides become others -/
theorem tw_become {S T : Sg} {a b aw bw : Int} (h : Rw S T b bw) (hab : a ≠ b) (hw : aw ≠ bw) : ∃ S2 T2 : Sg, zf_I_become a b S = some (0, S2) ∧ zf_W_like aw bw T = some (0, T2) ∧ Rw S2 T2 a aw ∧ Bc a S S2 ∧ Bm aw T T2 ∧ S2 0 a 0 0 = S 0 b 0 0 ∧ S2 0 a 31 3 = S 0 b 31 3 ∧ S2 0 a 16 0 = S 0 b 16 0 ∧ (∀ q j, 0 ≤ q → q < 5 → 0 ≤ j → j < 401 → T2 8 aw q j = T 8 bw q j) := by
  have hk := h.1.2.2.2.2.2
  obtain ⟨S2, k1, k2, k3⟩ := bk_I (S := S) hab (fun k x y => (hk k x y).2.2.2.1)
  obtain ⟨T2, l1, l2⟩ := bk_W (S := T) hw
  have lw := l2.wk
  have hBc : Bc a S S2 := fun g r k q => k2 g r k (by omega)
  refine ⟨S2, T2, k1, l1, ?_, hBc, fun g r k q => l2.1 g r k (by omega), k3.1 0 (by decide) (by decide), k3.2.2.2.2.2.2.2.2.2.1, k3.2.2.2.2.2.1, fun q j q1 q2 j1 j2 => lw.2.2.2.2.2.2.2.2.2.2.2.2 q j q1 q2 j1 j2⟩
  have h12 := h.2.1.2.1
  exact ⟨h.1.like k3 lw, h.2.1.like k3 lw, Rco.like h.2.1 h.2.2 (fun i x y => k3.2.2.2.2.2.2.1 25 i (by decide) (by decide) x (by omega)) k3.2.2.2.2.2.1 lw (fun l _ _ i _ _ => by rw [hBc 1 l 0 (by omega)])⟩
/-- what a try changes -/
def TC (g : Nat) (r k i : Int) : Prop := (r = 2 ∧ (g = 0 ∨ g = 13 ∨ g = 14)) ∨ (g = 3 ∧ r = 0 ∧ 7 ≤ k ∧ k ≤ 20) ∨ g = 20 ∨ g = 4
def TM (g : Nat) (r k i : Int) : Prop := (r = 1 ∧ (g = 5 ∨ g = 6 ∨ g = 7 ∨ g = 8 ∨ g = 21)) ∨ (g = 9 ∧ r = 0 ∧ k = 0 ∧ i = 4)
theorem Rw.try {S T S2 T2 : Sg} (h : Rw S T 0 0) (a : Fm TC S S2) (b : Fm TM T T2) : Rw S2 T2 0 0 := h.row (fun k => a.row (fun i => by unfold TC; omega)) (fun l _ _ => a.row (fun i => by unfold TC; omega)) (fun k => a.row (fun i => by unfold TC; omega)) (fun k => a.row (fun i => by unfold TC; omega)) (fun k j _ _ => b 5 0 k j (by unfold TM; omega)) (by funext k; exact b.row (fun i => by unfold TM; omega)) (by funext k; exact b.row (fun i => by unfold TM; omega))
theorem R2.try {S T S2 T2 : Sg} (h : R2 S T) (a : Fm TC S S2) (b : Fm TM T T2) (hc : Rcr S2) : R2 S2 T2 := by
  obtain ⟨h1, h2, h3, h4⟩ := h
  have e31 : S2 3 0 1 = S 3 0 1 := a.row (fun i => by unfold TC; omega)
  refine ⟨h1.try a b, hc, ?_, ?_⟩
  · intro j q c d e f
    rw [a 0 0 0 0 (by unfold TC; omega)] at d
    rw [b 8 0 q j (by unfold TM; omega), e31]
    exact h3 j q c d e f
  · exact h4.keep (by rw [a 0 0 16 0 (by unfold TC; omega)]; exact Int.le_refl _) (by rw [a 0 0 0 0 (by unfold TC; omega)]; exact Int.le_refl _) (a 3 0 0 3 (by unfold TC; omega)) (b 9 0 0 3 (by unfold TM; omega)) (fun k => a.row (fun i => by unfold TC; omega)) (fun l _ _ => a.row (fun i => by unfold TC; omega)) (fun k => a.row (fun i => by unfold TC; omega)) (fun k => a.row (fun i => by unfold TC; omega)) (fun k => b.row (fun i => by unfold TM; omega)) (by funext k; exact b.row (fun i => by unfold TM; omega)) (by funext k; exact b.row (fun i => by unfold TM; omega)) (by funext k; exact b.row (fun i => by unfold TM; omega)) (fun j _ _ q _ _ => by rw [e31])
theorem Bc.tc {S S2 : Sg} (h : Bc 2 S S2) : Fm TC S S2 := fun g r k i q => by rw [h g r k (fun e => q (by unfold TC; omega))]
theorem Bm.tm {T T2 : Sg} (h : Bm 1 T T2) : Fm TM T T2 := fun g r k i q => by rw [h g r k (fun e => q (by unfold TM; omega))]
theorem pass_tc {S S2 : Sg} {a : Int} (h : zf_A_pass 2 S = some (a, S2)) : Fm TC S S2 := zk_A_pass (fun g r k i e => by unfold zr_A_pass at e; unfold TC; omega) S (Fm.refl _ _) a S2 h
theorem step_tm {T T2 : Sg} {a : Int} (h : zf_W_step 1 T = some (a, T2)) : Fm TM T T2 := zk_W_step (fun g r k i e => by unfold zr_W_step at e; unfold TM; omega) T (Fm.refl _ _) a T2 h
theorem pass_zs {S S2 : Sg} {r a : Int} (h : zf_A_pass r S = some (a, S2)) (hz : Zs S) : Zs S2 := by
  intro r' k i
  rw [pass_fr h 14 r' k i (by unfold zr_A_pass; omega)]
  exact hz r' k i
