/-! ===== a week: crews are filled, and all work ===== -/
theorem tw_workAll {S T : Sg} {r w calm v : Int} (h : Rw S T r w) (hcr : Rcr S) (hy : zf_Y_at r 0 (S 0 r 0 0) S = some (v, S)) (hz : ∀ i, zn (S 14 r 0 i)) (hcm : calm = 0 ↔ S 0 r 1 1 < v) : ∃ (F : Int) (A A2 T2 : Sg), zf_C_fill r S = some (F, A) ∧ zf_A_work r calm (zu A 3 0 15 7 F) = some (0, A2) ∧ zf_W_workNow w T = some (F, T2) ∧ Rw A2 T2 r w ∧ Rcr A2 ∧ A2 3 0 15 7 = F ∧ A2 3 0 18 = S 3 0 18 ∧ A2 0 r 11 = S 0 r 11 ∧ Cru A2 T2 w (S 0 r 26 0) ∧ CFr S A ∧ AG r A A2 ∧ (∃ U, WFr w T U ∧ BG w U T2) ∧ (∀ T', BG w T2 T' → zf_W_skyOf w 0 (S 0 r 0 0) T' = some (v, T')) := by
  obtain ⟨crew, A, U, k1, k2, k3, k4, k5, k6⟩ := tw_fill h hcr
  have hwr := h.mc.2.2.2.2.2.2.1
  obtain ⟨v', e1, e2, e3⟩ := sky_all (k := 0) (x := S 0 r 0 0) (by decide) (h.toT k4.wk) hz hwr
  rw [hy] at e1
  injection e1 with e1
  injection e1 with e1 e1b
  subst e1
  have a0 : A 0 = S 0 := k3.g (by decide) (by decide) (by decide)
  have hF : AG r A (zu A 3 0 15 7 ((nfl crew 8 : Nat) : Int)) := AG.put (by unfold AK; omega) (by omega)
  have hA : Rw (zu A 3 0 15 7 ((nfl crew 8 : Nat) : Int)) U r w := (h.keep2 k3 k4).scr (fun g r' k q => zu_ne (by omega)) (fun _ _ _ _ _ => rfl)
  have hn40 := h.1.2.2.1.2.1
  have hn8 := h.1.2.2.2.1.2.1
  have b0 : zu A 3 0 15 7 ((nfl crew 8 : Nat) : Int) 0 = S 0 := by
    rw [← a0]
    funext r' k
    rw [zu_ne (by omega)]
  obtain ⟨B, B', l1, l2, l3, l4, l5⟩ := w_clear (r := r) (w := w) (N := S 0 r 6 0) (x2 := calm) (x1 := ((nfl crew 8 : Nat) : Int)) (S 0 r 6 0).toNat 4096 4096 0 _ U (by decide) (by omega) hn40.2 (by rw [b0]) (by omega) (by omega) hA
  have B0 : ∀ k, k ≠ 14 → B 0 r k = S 0 r k := fun k q => by rw [l4 0 r k (by omega), b0]
  have hcB : ∀ j, 0 ≤ j → j < S 0 r 26 0 → ∃ M : Nat, B 20 0 0 j = (M : Int) ∧ B' 21 w 0 j = (M : Int) ∧ M < 1099511627776 ∧ B' 5 w 37 j = (if M = 0 then 0 else 1) := by
    intro j p q
    obtain ⟨i, rfl⟩ : ∃ i : Nat, j = (i : Int) := ⟨j.toNat, by omega⟩
    obtain ⟨y1, y2, y3, y4⟩ := k6 i (by omega)
    exact ⟨crew i, by rw [l4 20 0 0 (by omega), zu_ne (by omega)]; exact y2, by rw [l5 21 w 0 (by omega)]; exact y3, y1, by rw [l5 5 w 37 (by omega)]; exact y4⟩
  obtain ⟨C, C', m1, m2, m3, m4, m5, m6, m7⟩ := w_posts (r := r) (w := w) (NP := S 0 r 26 0) (N := S 0 r 6 0) (x1 := ((nfl crew 8 : Nat) : Int)) (calm := calm) (v := v) (S 0 r 26 0).toNat 4096 4096 0 B B' (by decide) (by omega) hn8.2 (by rw [B0 26 (by decide)]) (by rw [B0 6 (by decide)]) hn40.2 (by omega) (by omega) (by rw [B0 1 (by decide)]; exact hcm) hcB (fun T' hb => by rw [B0 0 (by decide)]; exact e3 T' (l5.bg.trans hb)) l3
  have aAC : AG r A C := (hF.trans l4.ag).trans m4
  have bUC : BG w U C' := l5.bg.trans m5
  refine ⟨_, A, C, C', k1, ?_, ?_, m3, aAC.rcr k5, ?_, ?_, ?_, ?_, k3, aAC, ⟨U, k4, bUC⟩, fun T' hb => e3 T' (bUC.trans hb)⟩
  · unfold zf_A_work
    rw [l1]
    exact m1
  · unfold zf_W_workNow
    rw [k2, zbd_s, l2]
    exact m2
  · rw [m6, l4 3 0 15 (by omega), zu_at]
  · rw [m6, l4 3 0 18 (by omega), zu_ne (by omega), k3 3 0 18 (by omega) (by omega) (by omega)]
  · rw [m7, B0 11 (by decide)]
  · have c0 : Cru B B' w (S 0 r 26 0) := fun j p q => by
      obtain ⟨M, y1, y2, y3, y4⟩ := hcB j p q
      exact ⟨M, y1, y4⟩
    exact c0.to m4 m5
