/-! ===== one more of the people; rows by which a relation is kept ===== -/
def Tn (g : Nat) (r k : Int) : Prop := T0 g r k ∨ (g = 0 ∧ r = 0 ∧ 6 ≤ k ∧ k ≤ 15) ∨ (g = 5 ∧ r = 0 ∧ 0 ≤ k ∧ k ≤ 9)
theorem Ria.come {S S2 : Sg} (h : Ria S 0 0) (hf : Fr Tn S S2) (hn : S2 0 0 6 0 = S 0 0 6 0 + 1) (hn2 : S 0 0 6 0 < 40) (hm0 : S2 5 0 0 1 = S 0 0 6 0 + 1) (hm5 : ∀ i, i ≠ 1 → S2 5 0 0 i = S 5 0 0 i) (hi : ∀ i k, i ≠ S 0 0 6 0 → 7 ≤ k → S2 0 0 k i = S 0 0 k i) (hm : ∀ i k, i ≠ S 0 0 6 0 → 1 ≤ k → S2 5 0 k i = S 5 0 k i) (hx : Rp1 S2 0 0 (S 0 0 6 0)) : Ria S2 0 0 := by
  obtain ⟨h1, h2, ⟨h3, h3b, h3c⟩, h4, h5, h6⟩ := h
  have e : ∀ (g : Nat) (r k : Int), ¬ Tn g r k → S2 g r k = S g r k := hf
  have e0 : ∀ k, k < 6 ∨ 15 < k → S2 0 0 k = S 0 0 k := fun k hk => e _ _ _ (by unfold Tn T0; omega)
  have e5 : ∀ k, k < 0 ∨ 9 < k → S2 5 0 k = S 5 0 k := fun k hk => e _ _ _ (by unfold Tn T0; omega)
  have eg : ∀ (g : Nat) (r k : Int), g ≠ 0 → g ≠ 5 → g ≠ 9 → S2 g r k = S g r k := fun g r k a b c => e _ _ _ (by unfold Tn T0; omega)
  refine ⟨h1.to (e0 _ (by omega)) (e0 _ (by omega)) (e5 _ (by omega)) (e5 _ (by omega)) (fun i _ => hm5 i (by omega)), h2.to (fun k _ _ => e0 _ (by omega)) (fun k _ _ => e5 _ (by omega)), ⟨?_, ?_, ?_⟩, h4.to (fun k _ _ => e0 _ (by omega)) (fun k _ _ => e5 _ (by omega)) (hm5 25 (by decide)), h5.to (fun k _ _ => e0 _ (by omega)) (fun k _ _ => e5 _ (by omega)) (hm5 33 (by decide)), h6.to (fun k _ _ => eg _ _ _ (by decide) (by decide) (by decide)) (fun k _ _ => eg _ _ _ (by decide) (by decide) (by decide)) (fun k _ _ => eg _ _ _ (by decide) (by decide) (by decide)) (e5 _ (by omega)) (e5 _ (by omega))⟩
  · rw [hn, hm0]
  · rw [hn]; omega
  · intro i a b
    rw [hn] at b
    by_cases q : i = S 0 0 6 0
    · rw [q]; exact hx
    · have := h3c i a (by omega)
      unfold Rp1 at this ⊢
      rw [hm i 1 q (by decide), hm i 2 q (by decide), hm i 3 q (by decide), hm i 4 q (by decide), hm i 5 q (by decide), hm i 6 q (by decide), hm i 7 q (by decide), hm i 8 q (by decide), hm i 9 q (by decide), hi i 7 q (by decide), hi i 8 q (by decide), hi i 9 q (by decide), hi i 10 q (by decide), hi i 11 q (by decide), hi i 12 q (by decide), hi i 13 q (by decide), hi i 14 q (by decide), hi i 15 q (by decide), e0 0 (by omega)]
      exact this
/-- what both sides do when one comes -/
def cmO (S : Sg) (b h m s e : Int) : Sg := zu (zu (zu (zu (zu (zu (zu (zu (zu (zu S 0 0 7 (S 0 0 6 0) b) 0 0 8 (S 0 0 6 0) h) 0 0 9 (S 0 0 6 0) m) 0 0 10 (S 0 0 6 0) s) 0 0 11 (S 0 0 6 0) 0) 0 0 12 (S 0 0 6 0) e) 0 0 13 (S 0 0 6 0) 0) 0 0 14 (S 0 0 6 0) (-1)) 0 0 15 (S 0 0 6 0) 0) 0 0 6 0 (S 0 0 6 0 + 1)
def cmM (S : Sg) (b h m s e : Int) : Sg := zu (zu (zu (zu (zu (zu (zu (zu (zu (zu S 5 0 0 1 (S 5 0 0 1 + 1)) 5 0 1 (S 5 0 0 1) b) 5 0 2 (S 5 0 0 1) h) 5 0 3 (S 5 0 0 1) m) 5 0 4 (S 5 0 0 1) s) 5 0 5 (S 5 0 0 1) 0) 5 0 6 (S 5 0 0 1) e) 5 0 7 (S 5 0 0 1) 0) 5 0 8 (S 5 0 0 1) (-2)) 5 0 9 (S 5 0 0 1) 0
theorem pf_P_add {S : Sg} {b h m s e : Int} (hn : 0 ≤ S 0 0 6 0) : zf_P_add 0 b h m s e S = if S 0 0 6 0 < 40 then some (S 0 0 6 0, cmO S b h m s e) else some (-2, S) := by
  unfold zf_P_add cmO
  split
  · rename_i h4
    simp only [zlt_v, zck_b (show 0 ≤ S 0 0 6 0 ∧ S 0 0 6 0 < 40 by omega), zw_in (x := S 0 0 6 0 + 1) (by omega) (by omega)]
  · rfl
theorem pf_M_comes {S : Sg} {b h m s e : Int} (hn : 0 ≤ S 5 0 0 1 ∧ S 5 0 0 1 < 40) : zf_M_comes b h m s e S = some (S 5 0 0 1, cmM S b h m s e) := by
  unfold zf_M_comes cmM
  simp only [zlt_v, zck_b hn, zw_in (x := S 5 0 0 1 + 1) (by omega) (by omega)]
theorem pcm_keep {S : Sg} {b h m s e : Int} (hR : Ria S 0 0) (h4 : S 0 0 6 0 < 40) (hb : -5000 ≤ b ∧ b ≤ S 0 0 0 0) (hh : 0 ≤ h ∧ h < 12) (hm : -1 ≤ m ∧ m < S 0 0 6 0) (hs : 0 ≤ s ∧ s < 256) (he : -1 ≤ e ∧ e ≤ 400) : Ria (cmM (zu (cmO S b h m s e) 9 0 0 4 0) b h (pv m) s e) 0 0 ∧ Fr Tn S (cmM (zu (cmO S b h m s e) 9 0 0 4 0) b h (pv m) s e) := by
  have hn := hR.2.2.1
  have e1 : zu (cmO S b h m s e) 9 0 0 4 0 5 0 0 1 = S 0 0 6 0 := by
    rw [← hn.1]; simp [cmO, zu]
  have hF : Fr Tn S (cmM (zu (cmO S b h m s e) 9 0 0 4 0) b h (pv m) s e) := by
    intro g r k hh
    unfold Tn T0 at hh
    unfold cmM cmO
    simp (discharger := omega) only [zu_ne]
  refine ⟨hR.come hF ?_ h4 ?_ ?_ ?_ ?_ ?_, hF⟩
  · unfold cmM cmO; simp [zu]
  · unfold cmM; rw [e1]; simp [zu]
  · intro i hi; unfold cmM cmO; simp [zu, hi]
  · intro i k hi hk; unfold cmM; rw [e1]; unfold cmO; simp [zu, hi]; omega
  · intro i k hi hk; unfold cmM; rw [e1]; unfold cmO; simp [zu, hi]; omega
  · unfold cmM; rw [e1]; unfold cmO Rp1; simp [zu, pv]; omega
