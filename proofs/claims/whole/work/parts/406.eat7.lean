/-! ===== a week: rounds, facts about them ===== -/
theorem lfn_0 {f d : Int → Int} (hd : ∀ j, 0 ≤ d j) : ∀ (c : Nat) (i : Int), lfn f d 0 i c = 0
  | 0, _ => rfl
  | c + 1, i => by
    have := hd i
    show lfn f d (0 - gvn f d 0 i) (i + 1) c = 0
    rw [show gvn f d 0 i = 0 by unfold gvn; split <;> omega]
    exact lfn_0 hd c (i + 1)
theorem Gtn.rng {f d G : Int → Int} (hd : ∀ j, 0 ≤ d j ∧ d j ≤ 5) : ∀ {c : Nat} {x i : Int}, 0 ≤ x → Gtn f d x i c G → ∀ j, i ≤ j → j < i + c → (0 ≤ G j ∧ G j ≤ 5) ∧ (f j ≠ 1 → G j = 0) ∧ (f j = 1 → d j ≤ G j ∨ lfn f d x i c = 0)
  | 0, _, _, _, _ => fun j a b => absurd b (by omega)
  | c + 1, x, i, hx, h => fun j a b => by
    have hdi := hd i
    have hg : 0 ≤ gvn f d x i ∧ gvn f d x i ≤ x := by
      unfold gvn
      split <;> omega
    by_cases e : j = i
    · rw [e, h.1]
      refine ⟨?_, fun q => if_neg q, fun q => ?_⟩
      · unfold gvn
        split <;> omega
      · by_cases q2 : d i ≤ x
        · left
          unfold gvn
          rw [if_pos q]
          omega
        · right
          show lfn f d (x - gvn f d x i) (i + 1) c = 0
          rw [show x - gvn f d x i = 0 by unfold gvn; rw [if_pos q]; omega]
          exact lfn_0 (fun j => (hd j).1) c (i + 1)
    · exact Gtn.rng hd (by omega) h.2 j (by omega) (by omega)
