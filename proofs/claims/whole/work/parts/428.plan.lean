/-! ===== tries: plan ===== -/
theorem Rw.more {S T : Sg} {r w N g v : Int} (h : Rw S T r w) (hN : S 0 r 31 3 = N) (hN3 : N < 30) (hg : 0 ≤ g ∧ g < 4) (hv : 0 ≤ v ∧ v ≤ 500) : Rw (zu (zu (zu S 0 r 35 N g) 0 r 36 N v) 0 r 31 3 (N + 1)) (zu (zu (zu T 5 w 28 N g) 5 w 29 N v) 5 w 0 33 (N + 1)) r w := by
  obtain ⟨⟨h1, h2, h3, h4, h5, h6⟩, h7, h8⟩ := h
  generalize hS2 : zu (zu (zu S 0 r 35 N g) 0 r 36 N v) 0 r 31 3 (N + 1) = S2
  generalize hT2 : zu (zu (zu T 5 w 28 N g) 5 w 29 N v) 5 w 0 33 (N + 1) = T2
  have eS : ∀ k, k ≠ 31 → k ≠ 35 → k ≠ 36 → S2 0 r k = S 0 r k := fun k a b c => by rw [← hS2, zu_ne (by omega), zu_ne (by omega), zu_ne (by omega)]
  have eT : ∀ k, k ≠ 0 → k ≠ 28 → k ≠ 29 → T2 5 w k = T 5 w k := fun k a b c => by rw [← hT2, zu_ne (by omega), zu_ne (by omega), zu_ne (by omega)]
  have eT0 : ∀ j, j ≠ 33 → T2 5 w 0 j = T 5 w 0 j := fun j a => by rw [← hT2, zu_pl a, zu_ne (by omega), zu_ne (by omega)]
  have gS : ∀ g' : Nat, g' ≠ 0 → S2 g' = S g' := fun g' q => by funext r' k i; rw [← hS2]; unfold zu; rw [if_neg (by omega), if_neg (by omega), if_neg (by omega)]
  have gT : ∀ g' : Nat, g' ≠ 5 → T2 g' = T g' := fun g' q => by funext r' k i; rw [← hT2]; unfold zu; rw [if_neg (by omega), if_neg (by omega), if_neg (by omega)]
  have s31 : S2 0 r 31 3 = N + 1 := by rw [← hS2, zu_at]
  have s35 : ∀ i, S2 0 r 35 i = if i = N then g else S 0 r 35 i := fun i => by
    rw [← hS2, zu_ne (by omega), zu_ne (by omega)]
    by_cases e : i = N
    · rw [e, zu_at, if_pos rfl]
    · rw [zu_pl e, if_neg e]
  have s36 : ∀ i, S2 0 r 36 i = if i = N then v else S 0 r 36 i := fun i => by
    rw [← hS2, zu_ne (by omega)]
    by_cases e : i = N
    · rw [e, zu_at, if_pos rfl]
    · rw [zu_pl e, if_neg e, zu_ne (by omega)]
  have t33 : T2 5 w 0 33 = N + 1 := by rw [← hT2, zu_at]
  have t28 : ∀ i, T2 5 w 28 i = if i = N then g else T 5 w 28 i := fun i => by
    rw [← hT2, zu_ne (by omega), zu_ne (by omega)]
    by_cases e : i = N
    · rw [e, zu_at, if_pos rfl]
    · rw [zu_pl e, if_neg e]
  have t29 : ∀ i, T2 5 w 29 i = if i = N then v else T 5 w 29 i := fun i => by
    rw [← hT2, zu_ne (by omega)]
    by_cases e : i = N
    · rw [e, zu_at, if_pos rfl]
    · rw [zu_pl e, if_neg e, zu_ne (by omega)]
  clear hS2 hT2
  refine ⟨⟨?_, ?_, ?_, ?_, ?_, ?_⟩, ?_, ?_⟩
  · unfold Rsc2
    rw [eS 0 (by decide) (by decide) (by decide), eS 1 (by decide) (by decide) (by decide), eT0 0 (by decide), eT0 38 (by decide), eT0 39 (by decide), eT0 40 (by decide), eT0 15 (by decide), eT0 41 (by decide), eT 30 (by decide) (by decide) (by decide), eT 31 (by decide) (by decide) (by decide)]
    exact h1
  · intro i a b
    have c := h2 i a b
    unfold Rh12 at c ⊢
    rw [eS 2 (by decide) (by decide) (by decide), eS 3 (by decide) (by decide) (by decide), eS 4 (by decide) (by decide) (by decide), eS 5 (by decide) (by decide) (by decide), eT 10 (by decide) (by decide) (by decide), eT 11 (by decide) (by decide) (by decide), eT 12 (by decide) (by decide) (by decide), eT 13 (by decide) (by decide) (by decide)]
    exact c
  · refine ⟨by rw [eS 6 (by decide) (by decide) (by decide), eT0 1 (by decide)]; exact h3.1, by rw [eS 6 (by decide) (by decide) (by decide)]; exact h3.2.1, fun i a b => ?_⟩
    rw [eS 6 (by decide) (by decide) (by decide)] at b
    have c := h3.2.2 i a b
    unfold Rp12 at c ⊢
    rw [eS 0 (by decide) (by decide) (by decide), eS 7 (by decide) (by decide) (by decide), eS 8 (by decide) (by decide) (by decide), eS 9 (by decide) (by decide) (by decide), eS 10 (by decide) (by decide) (by decide), eS 11 (by decide) (by decide) (by decide), eS 12 (by decide) (by decide) (by decide), eS 13 (by decide) (by decide) (by decide), eS 14 (by decide) (by decide) (by decide), eS 15 (by decide) (by decide) (by decide), eT 1 (by decide) (by decide) (by decide), eT 2 (by decide) (by decide) (by decide), eT 3 (by decide) (by decide) (by decide), eT 4 (by decide) (by decide) (by decide), eT 5 (by decide) (by decide) (by decide), eT 6 (by decide) (by decide) (by decide), eT 7 (by decide) (by decide) (by decide), eT 8 (by decide) (by decide) (by decide), eT 9 (by decide) (by decide) (by decide)]
    exact c
  · refine ⟨by rw [eS 26 (by decide) (by decide) (by decide), eT0 25 (by decide)]; exact h4.1, by rw [eS 26 (by decide) (by decide) (by decide)]; exact h4.2.1, fun i a b => ?_⟩
    rw [eS 26 (by decide) (by decide) (by decide)] at b
    have c := h4.2.2 i a b
    unfold Rq12 at c ⊢
    rw [eS 27 (by decide) (by decide) (by decide), eS 28 (by decide) (by decide) (by decide), eS 29 (by decide) (by decide) (by decide), eS 30 (by decide) (by decide) (by decide), eT 21 (by decide) (by decide) (by decide), eT 22 (by decide) (by decide) (by decide), eT 23 (by decide) (by decide) (by decide), eT 24 (by decide) (by decide) (by decide)]
    exact c
  · have hN0 := h5.2.2.1
    refine ⟨fun g a b => ?_, by rw [s31, t33], by rw [s31]; omega, fun i a b => ?_⟩
    · have c := h5.1 g a b
      unfold Rg12 at c ⊢
      rw [eS 32 (by decide) (by decide) (by decide), eS 33 (by decide) (by decide) (by decide), eS 34 (by decide) (by decide) (by decide), eT 25 (by decide) (by decide) (by decide), eT 26 (by decide) (by decide) (by decide), eT 27 (by decide) (by decide) (by decide)]
      exact c
    · rw [s31] at b
      unfold Ro12
      rw [s35, s36, t28, t29]
      by_cases e : i = N
      · rw [if_pos e, if_pos e, if_pos e, if_pos e]
        exact ⟨rfl, rfl, hg, hv⟩
      · rw [if_neg e, if_neg e, if_neg e, if_neg e]
        exact h5.2.2.2 i a (by omega)
  · intro k a b
    have c := h6 k a b
    rw [gS 13 (by decide), gS 14 (by decide), gT 7 (by decide), eT 32 (by decide) (by decide) (by decide), eT 33 (by decide) (by decide) (by decide)]
    exact c
  · exact h7.to (fun k a b => eS k (by omega) (by omega) (by omega)) (fun k a b => eT k (by omega) (by omega) (by omega)) (eT0 16 (by decide)) (gT 6 (by decide))
  · intro l a b
    rw [eS 16 (by decide) (by decide) (by decide)] at b
    obtain ⟨L, e, c1, c2, c3, c4, c5, c6, c7⟩ := h8 l a b
    refine ⟨L, e, c1, ?_, c3, ?_, ?_, ?_, c7⟩
    · rw [eT 14 (by decide) (by decide) (by decide)]; exact c2
    · rw [gT 6 (by decide)]; exact c4
    · rw [eS 25 (by decide) (by decide) (by decide)]; exact c5
    · rw [gS 1 (by decide)]; exact c6
theorem tw_tens {S T : Sg} {g x : Int} (h : Rw S T 2 1) (hg : 0 ≤ g ∧ g < 4) (hx : 0 ≤ x ∧ x ≤ 10) (hN : S 0 2 31 3 < 30) : ∃ S2 T2 : Sg, zf_T_addTens 2 g x S = some (0, S2) ∧ zf_M_tell g (zw (10 * x)) T = some (0, T2) ∧ Rw S2 T2 2 1 ∧ Fm TC S S2 ∧ Fm TM T T2 ∧ S2 0 2 31 3 ≤ S 0 2 31 3 + 1 ∧ S2 0 2 0 0 = S 0 2 0 0 ∧ (∀ g : Nat, g ≠ 0 → S2 g = S g) := by
  have ho := h.1.2.2.2.2.1.2.1
  have ho2 := h.1.2.2.2.2.1.2.2.1
  unfold zf_T_addTens zf_M_tell
  rw [zw_in (x := 10 * x) (by omega) (by omega)]
  by_cases q : x ≤ 0
  · rw [if_pos q, if_pos (by omega)]
    exact ⟨S, T, rfl, rfl, h, Fm.refl _ _, Fm.refl _ _, by omega, rfl, fun _ _ => rfl⟩
  · have e28 : ∀ v, zu T 5 1 28 (S 0 2 31 3) v 5 1 0 33 = S 0 2 31 3 := fun v => by rw [zu_ne (by omega)]; exact ho
    have e29 : ∀ v u, zu (zu T 5 1 28 (S 0 2 31 3) v) 5 1 29 (S 0 2 31 3) u 5 1 0 33 = S 0 2 31 3 := fun v u => by rw [zu_ne (by omega), zu_ne (by omega)]; exact ho
    unfold zf_T_addOrder
    rw [if_neg q, if_neg (show ¬ 10 * x ≤ 0 by omega), if_pos hN, zlt_v, zck_b (by omega), zlt_v, zlt_v, zlt_v, zbd_s, ho, zck_b (by omega), zlt_v, e28, zck_b (by omega), zlt_v, e29, zlt_v, zw_in (x := S 0 2 31 3 + 1) (by omega) (by omega)]
    refine ⟨_, _, rfl, rfl, h.more rfl hN hg (by omega), ?_, ?_, ?_, ?_, ?_⟩
    · intro g' r k i n
      unfold TC at n
      unfold zu
      rw [if_neg (by omega), if_neg (by omega), if_neg (by omega)]
    · intro g' r k i n
      unfold TM at n
      unfold zu
      rw [if_neg (by omega), if_neg (by omega), if_neg (by omega)]
    · rw [zu_at]
      exact Int.le_refl _
    · rw [zu_ne (by omega), zu_ne (by omega), zu_ne (by omega)]
    · intro g' hg'
      funext r k i
      unfold zu
      rw [if_neg (by omega), if_neg (by omega), if_neg (by omega)]
theorem zand_3 {L0 L1 L2 L3 : Int} (h0 : L0 = 0 ∨ L0 = 1) (h1 : L1 = 0 ∨ L1 = 1) (h2 : L2 = 0 ∨ L2 = 1) (h3 : L3 = 0 ∨ L3 = 1) : zand (L0 + 2 * L1 + 4 * L2 + 8 * L3) 3 = 0 ↔ (L0 = 0 ∧ L1 = 0) := by
  rcases h0 with e | e <;> rcases h1 with e1 | e1 <;> rcases h2 with e2 | e2 <;> rcases h3 with e3 | e3 <;> subst e e1 e2 e3 <;> decide +kernel
/-- a class's answer, and the reference's, of how long it lasts from a week on -/
def Las (W a b : Int) : Prop := (a = 1000000 ∧ b = 16) ∨ (a = W + b ∧ 0 ≤ b ∧ b < 16)
theorem w_lasts {W : Int} (hW : W + 16 ≤ 400) : ∀ (c n n2 : Nat) (i : Int) (S T : Sg), 0 ≤ i → i + c = 16 → S 0 2 0 0 = W + i → c < n → c < n2 → Rw S T 2 1 → Rcr S → Zs S → ∃ (a b : Int) (S2 T2 : Sg), zf_O_lackInMind_2 n 3 16 i S = some (a, S2) ∧ zf_M_lasts_31 n2 i T = some (b, T2) ∧ Las W a b ∧ Rcr S2 ∧ Zs S2 ∧ Fm TC S S2 ∧ Fm TM T T2
  | 0, n + 1, n2 + 1, i, S, T, hi, hc, hN, _, _, h, hcr, hz => by
    rw [zf_O_lackInMind_2, if_pos (show (16 : Int) ≤ i by omega), zf_M_lasts_31, if_pos (show (16 : Int) ≤ i by omega)]
    exact ⟨1000000, 16, S, T, rfl, rfl, Or.inl ⟨rfl, rfl⟩, hcr, hz, Fm.refl _ _, Fm.refl _ _⟩
  | c + 1, n + 1, n2 + 1, i, S, T, hi, hc, hN, h1, h2, h, hcr, hz => by
    have hw0 := h.mc.2.2.2.2.2.2.1
    obtain ⟨L0, L1, L2, L3, A, T2, l0, l1, l2, l3, a1, a2, a3, a4, a5, b0, b1, b2, b3, -⟩ := tw_pass h hcr (hz 2) (by omega)
    have h3 := zand_3 l0 l1 l2 l3
    rw [zf_O_lackInMind_2, if_neg (show ¬ (16 : Int) ≤ i by omega), zlt_v, a1, zbd_s, zf_M_lasts_31, if_neg (show ¬ (16 : Int) ≤ i by omega), a2, zbd_s, b0, b1]
    have las : Las W (S 0 2 0 0) i := Or.inr ⟨hN, hi, by omega⟩
    by_cases q0 : L0 = 1
    · rw [if_pos q0, if_neg (fun e => by have := (h3.mp e).1; omega)]
      exact ⟨_, _, A, T2, rfl, rfl, las, a4, pass_zs a1 hz, pass_tc a1, step_tm a2⟩
    · by_cases q1 : L1 = 1
      · rw [if_neg q0, if_pos q1, if_neg (fun e => by have := (h3.mp e).2; omega)]
        exact ⟨_, _, A, T2, rfl, rfl, las, a4, pass_zs a1 hz, pass_tc a1, step_tm a2⟩
      · rw [if_neg q0, if_neg q1, if_pos (h3.mpr ⟨by omega, by omega⟩), zlt_v, zlt_v, zw_in (x := i + 1) (by omega) (by omega)]
        obtain ⟨a, b, C, T3, k1, k2, k3, k4, k5, k6, k7⟩ := w_lasts hW c n n2 (i + 1) A T2 (by omega) (by omega) (by omega) (by omega) (by omega) a3 a4 (pass_zs a1 hz)
        exact ⟨a, b, C, T3, k1, k2, k3, k4, k5, (pass_tc a1).trans k6, (step_tm a2).trans k7⟩
/-- one trial of a plan, both sides -/
theorem tw_lasts {S T : Sg} {x y W : Int} (h : Rw S T 0 0) (hcr : Rcr S) (hz : Zs S) (hW : S 0 0 0 0 = W) (hW4 : W + 16 ≤ 400) (hN : S 0 0 31 3 ≤ 28) (hx : 0 ≤ x ∧ x ≤ 10) (hy : 0 ≤ y ∧ y ≤ 10) : ∃ (a b : Int) (S2 T2 : Sg), (∀ q : Int → Sg → Option (Int × Sg), (zbd (zf_I_become (2) (0) S) fun _ S4 => zbd (zf_T_addTens (2) 0 x S4) fun _ S6 => zbd (zf_T_addTens (2) 1 y S6) fun _ S8 => zbd (zf_O_lackInMind 3 16 S8) q) = q a S2) ∧ zf_M_lasts x y T = some (b, T2) ∧ Las W a b ∧ Rcr S2 ∧ Zs S2 ∧ Fm TC S S2 ∧ Fm TM T T2 := by
  obtain ⟨A, B, a1, a2, a3, a4, a5, a6, a7, -⟩ := tw_become (a := 2) (aw := 1) h (by decide) (by decide)
  obtain ⟨C, D, b1, b2, b3, b4, b5, b6, b7, b8⟩ := tw_tens (g := 0) (x := x) a3 (by decide) hx (by omega)
  obtain ⟨E, F, c1, c2, c3, c4, c5, c6, c7, c8⟩ := tw_tens (g := 1) (x := y) b3 (by decide) hy (by omega)
  have hr : Rcr E := ((hcr.bc a4).to (b8 20 (by decide)) (b8 3 (by decide))).to (c8 20 (by decide)) (c8 3 (by decide))
  have hzE : Zs E := fun r k i => by rw [c8 14 (by decide), b8 14 (by decide)]; exact i_zs a1 hz r k i
  obtain ⟨a, b, G, H, d1, d2, d3, d4, d5, d6, d7⟩ := w_lasts hW4 16 4096 4096 0 E F (by decide) (by decide) (by omega) (by decide) (by decide) c3 hr hzE
  have d1' : zf_O_lackInMind 3 16 E = some (a, G) := d1
  refine ⟨a, b, G, H, fun q => ?_, ?_, d3, d4, d5, ((a4.tc.trans b4).trans c4).trans d6, ((a5.tm.trans b5).trans c5).trans d7⟩
  · rw [a1, zbd_s, b1, zbd_s, c1, zbd_s, d1', zbd_s]
  · unfold zf_M_lasts
    rw [a2, zbd_s, b2, zbd_s, c2, zbd_s]
    exact d2
