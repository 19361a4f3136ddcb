/-! ===== may, vote ===== -/
theorem Rw.toT {S T T2 : Sg} {r w : Int} (h : Rw S T r w) (hw : Wk T T2 w w) : Rw S T2 r w := by
  have hb : Bk S S r r := Bk.eq rfl rfl rfl
  exact ⟨h.1.like hb hw, h.2.1.like hb hw, Rco.like h.2.1 h.2.2 (fun _ _ _ => rfl) rfl hw (fun _ _ _ _ _ _ => rfl)⟩
theorem Rw.toS {S T S2 : Sg} {r w : Int} (h : Rw S T r w) (h0 : S2 0 = S 0) (h1 : S2 1 = S 1) (h13 : S2 13 = S 13) (h14 : S2 14 = S 14) : Rw S2 T r w := by
  have hb : Bk S S2 r r := Bk.eq h0 h13 h14
  have hw : Wk T T w w := Wk.eq (fun _ _ => rfl) (fun _ _ _ => rfl) rfl rfl rfl
  exact ⟨h.1.like hb hw, h.2.1.like hb hw, Rco.like h.2.1 h.2.2 (fun _ _ _ => by rw [h0]) (by rw [h0]) hw (fun _ _ _ _ _ _ => by rw [h1])⟩
def ThF (T T2 : Sg) : Prop := ∀ (g : Nat) (r k j : Int), ¬ (g = 9 ∧ r = 0 ∧ k = 0 ∧ j = 4) → T2 g r k j = T g r k j
theorem ThF.put (T : Sg) (v : Int) : ThF T (zu T 9 0 0 4 v) := fun _ _ _ _ q => if_neg q
theorem gWk {T T2 : Sg} {w : Int} (h : ∀ (g : Nat) (r k j : Int), 5 ≤ g → g ≤ 8 → T2 g r k j = T g r k j) : Wk T T2 w w := by
  refine Wk.eq (fun i _ => h 5 w 0 i (by decide) (by decide)) (fun k _ _ => ?_) ?_ ?_ ?_
  · funext j; exact h 5 w k j (by decide) (by decide)
  · funext r k j; exact h 6 r k j (by decide) (by decide)
  · funext r k j; exact h 7 r k j (by decide) (by decide)
  · funext r k j; exact h 8 r k j (by decide) (by decide)
theorem pf_W_hereT {S : Sg} {r x : Int} (hx : 0 ≤ x ∧ x < 40) (h : S 5 r 5 x = 0) : zf_W_here r x S = some (1, S) := by
  rw [pf_W_here hx, if_pos h]
theorem pf_W_hereF {S : Sg} {r x : Int} (hx : 0 ≤ x ∧ x < 40) (h : ¬ S 5 r 5 x = 0) : zf_W_here r x S = some (0, S) := by
  rw [pf_W_here hx, if_neg h]
theorem tw_may {S : Sg} (p s : Int) (h : Rw S S 0 0) : ∃ (a : Int) (S1 S2 : Sg), zf_O_may p s S = some (a, S1) ∧ zf_M_may p s S1 = some (a, S2) ∧ JF S S1 ∧ (∀ (g : Nat) (r k j : Int), ¬ (g = 9 ∧ r = 0 ∧ k = 0 ∧ j = 4) → ¬ (g = 5 ∧ r = 0 ∧ (k = 35 ∨ k = 0 ∧ 47 ≤ j ∧ j ≤ 49)) → S2 g r k j = S1 g r k j) := by
  have hpp := h.1.2.2.1
  have hn := hpp.2.1
  have hM1 : ∀ S1 : Sg, JF S S1 → Wk S (zu S1 9 0 0 4 0) 0 0 := fun S1 hj => gWk (fun g r k j h5 h8 => by rw [show zu S1 9 0 0 4 0 g r k j = S1 g r k j from if_neg (by omega), hj g r k (by omega)])
  have e1 : ∀ S1 : Sg, JF S S1 → zu S1 9 0 0 4 0 5 0 0 1 = S 0 0 6 0 := fun S1 hj => by
    rw [(hM1 S1 hj).1 1 (by omega)]
    exact hpp.1
  have iP : ∀ S1 : Sg, JF S S1 → zf_M_isPerson p (zu S1 9 0 0 4 0) = some (if 0 ≤ p ∧ p < S 0 0 6 0 then 1 else 0, zu S1 9 0 0 4 0) := fun S1 hj => by
    rw [pf_M_isPerson _ (by rw [e1 S1 hj]; exact hn), e1 S1 hj]
  unfold zf_O_may
  rw [pf_P_has, zbd_s]
  have fr0 : ∀ S1 : Sg, (∀ (g : Nat) (r k j : Int), ¬ (g = 9 ∧ r = 0 ∧ k = 0 ∧ j = 4) → ¬ (g = 5 ∧ r = 0 ∧ (k = 35 ∨ k = 0 ∧ 47 ≤ j ∧ j ≤ 49)) → zu S1 9 0 0 4 0 g r k j = S1 g r k j) := fun S1 g r k j q _ => if_neg q
  by_cases hp : 0 ≤ p ∧ p < S 0 0 6 0
  · rw [if_pos hp, if_neg n10, pf_O_isSubject, zbd_s]
    by_cases hs : 0 ≤ s ∧ s < 4
    · rw [if_pos hs, if_neg n10, zck_b (by omega)]
      have q := hpp.2.2 p hp.1 hp.2
      unfold Rp12 at q
      by_cases hst : S 0 0 11 p = 0
      · rw [if_pos hst]
        obtain ⟨v, S1, -, k1, -, k3, k4, -⟩ := pf_may s h hp
        rw [k1, zbd_s]
        obtain ⟨v', S1', T2, l1, l2, -, -, l5⟩ := pf_may s (h.toT (hM1 S1 k4)) hp
        rw [k1] at l1
        cases l1
        refine ⟨v, S1, T2, ?_, ?_, k4, ?_⟩
        · rcases k3 with z | z <;> subst z <;> rfl
        · unfold zf_M_may
          rw [zlt_v, iP S1 k4, zbd_s, if_pos hp, if_neg n10, pf_M_in, zbd_s, if_pos (show 0 ≤ s ∧ s ≤ 3 by omega), if_neg n10, pf_W_hereT (by omega) (by rw [(hM1 S1 k4).2.1 5 p (by decide) (by decide) (by omega) (by omega), q.2.2.2.2.1]; exact hst), zbd_s, if_neg n10, l2, zbd_s]
          rcases k3 with z | z <;> subst z <;> rfl
        · intro g r k j q1 q2
          rw [l5 g r k j q2]
          exact if_neg q1
      · rw [if_neg hst]
        refine ⟨-3, S, zu S 9 0 0 4 0, rfl, ?_, JF.refl S, fr0 S⟩
        unfold zf_M_may
        rw [zlt_v, iP S (JF.refl S), zbd_s, if_pos hp, if_neg n10, pf_M_in, zbd_s, if_pos (show 0 ≤ s ∧ s ≤ 3 by omega), if_neg n10, pf_W_hereF (by omega) (by rw [(hM1 S (JF.refl S)).2.1 5 p (by decide) (by decide) (by omega) (by omega), q.2.2.2.2.1]; exact hst), zbd_s, if_pos z00]
    · rw [if_neg hs, if_pos z00]
      refine ⟨-1, S, zu S 9 0 0 4 0, rfl, ?_, JF.refl S, fr0 S⟩
      unfold zf_M_may
      rw [zlt_v, iP S (JF.refl S), zbd_s, if_pos hp, if_neg n10, pf_M_in, zbd_s, if_neg (show ¬ (0 ≤ s ∧ s ≤ 3) by omega), if_pos z00]
  · rw [if_neg hp, if_pos z00]
    refine ⟨-1, S, zu S 9 0 0 4 0, rfl, ?_, JF.refl S, fr0 S⟩
    unfold zf_M_may
    rw [zlt_v, iP S (JF.refl S), zbd_s, if_neg hp, if_pos z00]
/-- the law in force isn't void -/
theorem pl_inF {S : Sg} {r s wk : Int} (hn : S 0 r 16 0 ≤ 12) : ∀ (c n : Nat) (best l : Int), 0 ≤ l → l + c = S 0 r 16 0 → c < n → -1 ≤ best → best < l → (0 ≤ best → S 0 r 21 best = 0) → ∀ v S2, zf_L_inForce_5 r n s wk best l S = some (v, S2) → (0 ≤ v → S 0 r 21 v = 0)
  | 0, n + 1, best, l, h0, hc, _, hb, hb2, hv, v, S2, h => by
    rw [zf_L_inForce_5, if_pos (by omega)] at h
    cases h
    exact hv
  | c + 1, n + 1, best, l, h0, hc, h1, hb, hb2, hv, v, S2, h => by
    have e1 := force_C (s := s) (wk := wk) (n := n) hn (l := l) ⟨h0, by omega⟩ ⟨hb, hb2⟩
    by_cases z : hit S r s wk l ∧ (best < 0 ∨ S 0 r 18 best ≤ S 0 r 18 l)
    · rw [e1.1 z] at h
      exact pl_inF hn c n l (l + 1) (by omega) (by omega) (by omega) (by omega) (by omega) (fun _ => z.1.2.1) v S2 h
    · rw [e1.2 z] at h
      exact pl_inF hn c n best (l + 1) (by omega) (by omega) (by omega) hb (by omega) hv v S2 h
theorem pf_inF {S : Sg} {r s wk v : Int} {S2 : Sg} (hn : 0 ≤ S 0 r 16 0 ∧ S 0 r 16 0 ≤ 12) (h : zf_L_inForce r s wk S = some (v, S2)) (h0 : 0 ≤ v) : S 0 r 21 v = 0 := by
  unfold zf_L_inForce at h
  exact pl_inF hn.2 (S 0 r 16 0).toNat 4096 (-1) 0 (by decide) (by omega) (by omega) (by decide) (by decide) (by omega) v S2 h h0
theorem Ri.rows {S T S2 T2 : Sg} {r w : Int} (h : Ri S T r w) (hS : ∀ k, k < 16 ∨ 25 < k → S2 0 r k = S 0 r k) (h13 : S2 13 = S 13) (h14 : S2 14 = S 14) (hT : ∀ k, 1 ≤ k ∧ k < 14 ∨ 20 < k ∧ k < 34 → T2 5 w k = T 5 w k) (hT0 : ∀ i, i = 0 ∨ i = 1 ∨ i = 15 ∨ i = 25 ∨ i = 33 ∨ (38 ≤ i ∧ i ≤ 41) → T2 5 w 0 i = T 5 w 0 i) (h7 : T2 7 = T 7) : Ri S2 T2 r w := by
  obtain ⟨a1, a2, a3, a4, a5, a6⟩ := h
  refine ⟨?_, ?_, ?_, ?_, ?_, ?_⟩
  · unfold Rsc2 at *
    rw [hS 0 (by omega), hS 1 (by omega), hT 30 (by omega), hT 31 (by omega), hT0 0 (by omega), hT0 15 (by omega), hT0 38 (by omega), hT0 39 (by omega), hT0 40 (by omega), hT0 41 (by omega)]
    exact a1
  · unfold Rho2 Rh12 at *
    rw [hS 2 (by omega), hS 3 (by omega), hS 4 (by omega), hS 5 (by omega), hT 10 (by omega), hT 11 (by omega), hT 12 (by omega), hT 13 (by omega)]
    exact a2
  · unfold Rpp2 Rp12 at *
    rw [hS 0 (by omega), hS 6 (by omega), hS 7 (by omega), hS 8 (by omega), hS 9 (by omega), hS 10 (by omega), hS 11 (by omega), hS 12 (by omega), hS 13 (by omega), hS 14 (by omega), hS 15 (by omega), hT 1 (by omega), hT 2 (by omega), hT 3 (by omega), hT 4 (by omega), hT 5 (by omega), hT 6 (by omega), hT 7 (by omega), hT 8 (by omega), hT 9 (by omega), hT0 1 (by omega)]
    exact a3
  · unfold Rpo2 Rq12 at *
    rw [hS 26 (by omega), hS 27 (by omega), hS 28 (by omega), hS 29 (by omega), hS 30 (by omega), hT 21 (by omega), hT 22 (by omega), hT 23 (by omega), hT 24 (by omega), hT0 25 (by omega)]
    exact a4
  · unfold Rst2 Rg12 Ro12 at *
    rw [hS 31 (by omega), hS 32 (by omega), hS 33 (by omega), hS 34 (by omega), hS 35 (by omega), hS 36 (by omega), hT 25 (by omega), hT 26 (by omega), hT 27 (by omega), hT 28 (by omega), hT 29 (by omega), hT0 33 (by omega)]
    exact a5
  · unfold Rsk2 at *
    rw [h13, h14, hT 32 (by omega), hT 33 (by omega), h7]
    exact a6
/-- a new law on either side -/
theorem Rw.law {S T S2 T2 : Sg} (h : Rw S T 0 0) (N : Int) (hN : S 0 0 16 0 = N) (hN2 : N < 12) (hS : ∀ k, k < 16 ∨ 25 < k → S2 0 0 k = S 0 0 k) (h13 : S2 13 = S 13) (h14 : S2 14 = S 14) (hT : ∀ k, 1 ≤ k ∧ k < 14 ∨ 20 < k ∧ k < 34 → T2 5 0 k = T 5 0 k) (hT0 : ∀ i, i = 0 ∨ i = 1 ∨ i = 15 ∨ i = 25 ∨ i = 33 ∨ (38 ≤ i ∧ i ≤ 41) → T2 5 0 0 i = T 5 0 0 i) (h7 : T2 7 = T 7) (n1 : S2 0 0 16 0 = N + 1) (n2 : T2 5 0 0 16 = N + 1) (hSl : ∀ k i, 17 ≤ k → k ≤ 25 → i ≠ N → S2 0 0 k i = S 0 0 k i) (hTl : ∀ k i, 14 ≤ k → k ≤ 20 → i ≠ N → T2 5 0 k i = T 5 0 k i) (h6 : ∀ k, k ≠ N → T2 6 0 k = T 6 0 k) (h1 : ∀ l, l ≠ N → S2 1 l = S 1 l) (hl : Rl1 S2 T2 0 0 N) (hc : Co S2 T2 0 0 N) : Rw S2 T2 0 0 := by
  obtain ⟨c1, c2, c3⟩ := h.2.1
  have c4 := h.2.2
  rw [hN] at c2 c3
  unfold Rco at c4
  rw [hN] at c4
  refine ⟨h.1.rows hS h13 h14 hT hT0 h7, ⟨by rw [n1, n2], by rw [n1]; omega, fun l a b => ?_⟩, fun l a b => ?_⟩
  · by_cases q : l = N
    · rw [q]; exact hl
    · rw [n1] at b
      have c := c3 l a (by omega)
      unfold Rl1 at c ⊢
      rw [hSl 17 l (by omega) (by omega) q, hSl 18 l (by omega) (by omega) q, hSl 19 l (by omega) (by omega) q, hSl 20 l (by omega) (by omega) q, hSl 21 l (by omega) (by omega) q, hSl 22 l (by omega) (by omega) q, hSl 23 l (by omega) (by omega) q, hSl 24 l (by omega) (by omega) q, hTl 14 l (by omega) (by omega) q, hTl 15 l (by omega) (by omega) q, hTl 16 l (by omega) (by omega) q, hTl 17 l (by omega) (by omega) q, hTl 18 l (by omega) (by omega) q, hTl 19 l (by omega) (by omega) q, hTl 20 l (by omega) (by omega) q, h6 l q, hSl 21 (S 0 0 23 l) (by omega) (by omega) (by omega)]
      exact c
  · by_cases q : l = N
    · rw [q]; exact hc
    · rw [n1] at b
      obtain ⟨L, e, d1, d2, d3, d4, d5, d6, d7⟩ := c4 l a (by omega)
      refine ⟨L, e, d1, ?_, d3, ?_, ?_, ?_, d7⟩
      · rw [hTl 14 l (by omega) (by omega) q]; exact d2
      · rw [h6 l q]; exact d4
      · rw [hSl 25 l (by omega) (by omega) q]; exact d5
      · rw [h1 l q]; exact d6
theorem Rla.low {S T S2 T2 : Sg} {r w N : Int} (h : Rla S T r w) (hN : S 0 r 16 0 = N) (n1 : S2 0 r 16 0 = N) (n2 : T2 5 w 0 16 = T 5 w 0 16) (hSl : ∀ k i, 17 ≤ k → k ≤ 24 → i ≠ N → S2 0 r k i = S 0 r k i) (hTl : ∀ k i, 14 ≤ k → k ≤ 20 → i ≠ N → T2 5 w k i = T 5 w k i) (h6 : ∀ k, k ≠ N → T2 6 w k = T 6 w k) : Rla S2 T2 r w := by
  obtain ⟨c1, c2, c3⟩ := h
  rw [hN] at c2 c3
  refine ⟨by rw [n1, n2, c1, hN], by rw [n1]; exact c2, fun l a b => ?_⟩
  rw [n1] at b
  have q : l ≠ N := by omega
  have c := c3 l a b
  unfold Rl1 at c ⊢
  rw [hSl 17 l (by omega) (by omega) q, hSl 18 l (by omega) (by omega) q, hSl 19 l (by omega) (by omega) q, hSl 20 l (by omega) (by omega) q, hSl 21 l (by omega) (by omega) q, hSl 22 l (by omega) (by omega) q, hSl 23 l (by omega) (by omega) q, hSl 24 l (by omega) (by omega) q, hTl 14 l (by omega) (by omega) q, hTl 15 l (by omega) (by omega) q, hTl 16 l (by omega) (by omega) q, hTl 17 l (by omega) (by omega) q, hTl 18 l (by omega) (by omega) q, hTl 19 l (by omega) (by omega) q, hTl 20 l (by omega) (by omega) q, h6 l q, hSl 21 (S 0 r 23 l) (by omega) (by omega) (by omega)]
  exact c
/-- the class makes a law of what its reader has read, the reference of the row: from alike memories to alike ones -/
def addC (S : Sg) (N sz wk n v u : Int) : Sg := zu (zcp (zu (zu (zu (zu (zu (zu (zu (zu (zu S 0 0 17 N (S 3 0 4 0)) 0 0 18 N (wk + 1)) 0 0 19 N n) 0 0 20 N v) 0 0 21 N 0) 0 0 22 N (-1)) 0 0 23 N u) 0 0 24 N sz) 0 0 25 N (S 3 0 4 2)) 3 0 5 0 1 N 0 0 120) 0 0 16 0 (N + 1)
def addM (T : Sg) (d N sz wk n v u : Int) : Sg := zu (zu (zu (zu (zu (zu (zu (zu (zcp T 10 d 0 0 6 0 N 0 sz) 5 0 14 N sz) 5 0 15 N (wk + 1)) 5 0 16 N n) 5 0 17 N v) 5 0 18 N u) 5 0 19 N 0) 5 0 20 N (-2)) 5 0 0 16 (N + 1)
theorem add_rel {S T : Sg} {d N sz wk n v u : Int} {L e : List Int} (h : Rw S T 0 0) (hN : S 0 0 16 0 = N) (hN2 : 0 ≤ N ∧ N < 12) (hwk : 0 ≤ wk ∧ wk ≤ 400) (hn : 0 ≤ n ∧ n ≤ v) (hv : v ≤ 40) (hu : -1 ≤ u ∧ u < N) (hu2 : 0 ≤ u → S 0 0 21 u = 0) (hL : (pTx L).2 = some e) (hLs : (L.length : Int) = sz) (hsz : sz ≤ 120) (hLt : Ltr (T 10 d 0) L) (hsu : S 3 0 4 0 = sbj (T 10 d 0 0)) (he : S 3 0 4 2 = e.length) (hq : Sq (S 3 0 5) 0 e) (he2 : e.length ≤ 120) : Rw (addC S N sz wk n v u) (addM T d N sz wk n v (pv u)) 0 0 := by
  have hsj := sbj_rng (T 10 d 0 0)
  have hLp : 0 < L.length := by
    cases hLL : L with
    | nil => exact absurd hLL (pTx_head hL)
    | cons x t => simp
  have d16 : addC S N sz wk n v u 0 0 16 0 = N + 1 := by unfold addC; simp [zu]
  refine h.law N hN hN2.2 ?_ ?_ ?_ ?_ ?_ ?_ d16 ?_ ?_ ?_ ?_ ?_ ?_ ?_
  · intro k hk
    unfold addC
    simp (discharger := omega) only [zu_ne, zcp_nr]
  · funext r k
    unfold addC
    simp (discharger := omega) only [zu_ne, zcp_nr]
  · funext r k
    unfold addC
    simp (discharger := omega) only [zu_ne, zcp_nr]
  · intro k hk
    unfold addM
    simp (discharger := omega) only [zu_ne, zcp_nr]
  · intro i hi
    unfold addM
    rw [zu_pl (by omega)]
    simp (discharger := omega) only [zu_ne, zcp_nr]
  · funext r k
    unfold addM
    simp (discharger := omega) only [zu_ne, zcp_nr]
  · unfold addM; simp [zu]
  · intro k i h1 h2 h3
    have hk : k = 17 ∨ k = 18 ∨ k = 19 ∨ k = 20 ∨ k = 21 ∨ k = 22 ∨ k = 23 ∨ k = 24 ∨ k = 25 := by omega
    unfold addC
    rcases hk with q | q | q | q | q | q | q | q | q <;> subst q <;> simp [zu, zcp, h3]
  · intro k i h1 h2 h3
    have hk : k = 14 ∨ k = 15 ∨ k = 16 ∨ k = 17 ∨ k = 18 ∨ k = 19 ∨ k = 20 := by omega
    unfold addM
    rcases hk with q | q | q | q | q | q | q <;> subst q <;> simp [zu, zcp, h3]
  · intro k hk
    unfold addM
    simp (discharger := omega) only [zu_ne, zcp_nr]
  · intro l hl
    funext k
    unfold addC
    simp (discharger := omega) only [zu_ne, zcp_nr]
  · have t0 : addM T d N sz wk n v (pv u) 6 0 N 0 = T 10 d 0 0 := by
      unfold addM
      simp [zu, zcp]
      omega
    have c21 : ∀ j, j ≠ N → addC S N sz wk n v u 0 0 21 j = S 0 0 21 j := by
      intro j hj
      unfold addC
      simp [zu, zcp, hj]
    unfold Rl1
    rw [t0]
    have c17 : addC S N sz wk n v u 0 0 17 N = S 3 0 4 0 := by unfold addC; simp [zu, zcp]
    have c18 : addC S N sz wk n v u 0 0 18 N = wk + 1 := by unfold addC; simp [zu, zcp]
    have c19 : addC S N sz wk n v u 0 0 19 N = n := by unfold addC; simp [zu, zcp]
    have c20 : addC S N sz wk n v u 0 0 20 N = v := by unfold addC; simp [zu, zcp]
    have c21' : addC S N sz wk n v u 0 0 21 N = 0 := by unfold addC; simp [zu, zcp]
    have c22 : addC S N sz wk n v u 0 0 22 N = -1 := by unfold addC; simp [zu, zcp]
    have c23 : addC S N sz wk n v u 0 0 23 N = u := by unfold addC; simp [zu, zcp]
    have c24 : addC S N sz wk n v u 0 0 24 N = sz := by unfold addC; simp [zu, zcp]
    have m14 : addM T d N sz wk n v (pv u) 5 0 14 N = sz := by unfold addM; simp [zu, zcp]
    have m15 : addM T d N sz wk n v (pv u) 5 0 15 N = wk + 1 := by unfold addM; simp [zu, zcp]
    have m16 : addM T d N sz wk n v (pv u) 5 0 16 N = n := by unfold addM; simp [zu, zcp]
    have m17 : addM T d N sz wk n v (pv u) 5 0 17 N = v := by unfold addM; simp [zu, zcp]
    have m18 : addM T d N sz wk n v (pv u) 5 0 18 N = pv u := by unfold addM; simp [zu, zcp]
    have m19 : addM T d N sz wk n v (pv u) 5 0 19 N = 0 := by unfold addM; simp [zu, zcp]
    have m20 : addM T d N sz wk n v (pv u) 5 0 20 N = -2 := by unfold addM; simp [zu, zcp]
    rw [c17, c18, c19, c20, c21', c22, c23, c24, m14, m15, m16, m17, m18, m19, m20]
    refine ⟨rfl, rfl, rfl, rfl, rfl, rfl, rfl, hsu.symm, by omega, by omega, hv, by omega, by omega, by omega, by omega, by rw [hsu]; exact hsj, fun a b => ?_⟩
    rw [c21 u (by omega), hu2 a] at b
    omega
  · refine ⟨L, e, hL, ?_, by omega, ?_, ?_, ?_, he2⟩
    · unfold addM; simp [zu, zcp]; exact hLs
    · refine hLt.ext (fun j a b => ?_)
      unfold addM
      simp [zu, zcp]
      omega
    · unfold addC; simp [zu, zcp]; exact he
    · refine hq.ext (fun j a b => ?_)
      unfold addC
      simp [zu, zcp]
      omega
/-- what a vote may change -/
def VC (S S2 : Sg) : Prop := ∀ (g : Nat) (r k : Int), ¬ (g = 3 ∧ r = 0 ∧ 4 ≤ k ∧ k ≤ 9) → ¬ (g = 0 ∧ r = 0 ∧ 16 ≤ k ∧ k ≤ 25) → ¬ (g = 1 ∧ r = S 0 0 16 0) → S2 g r k = S g r k
def VM (N : Int) (T T2 : Sg) : Prop := ∀ (g : Nat) (r k j : Int), ¬ (g = 9 ∧ r = 0 ∧ k = 0 ∧ (j = 4 ∨ 10 ≤ j ∧ j ≤ 14)) → ¬ (g = 5 ∧ r = 0 ∧ (14 ≤ k ∧ k ≤ 20 ∨ k = 35 ∨ k = 0 ∧ (j = 16 ∨ 47 ≤ j ∧ j ≤ 49))) → ¬ (g = 6 ∧ r = 0 ∧ k = N) → T2 g r k j = T g r k j
theorem tw_vote {S : Sg} (d n : Int) (hz : zn n) (h : Rw S S 0 0) (hs : Rsh S) : ∃ (a : Int) (S1 S2 : Sg), zf_O_vote d n S = some (a, S1) ∧ zf_M_vote d n S1 = some (a, S2) ∧ Rw S1 S2 0 0 ∧ VC S S1 ∧ VM (S 0 0 16 0) S1 S2 ∧ S 0 0 16 0 ≤ S1 0 0 16 0 := by
  have hL := h.2.1
  have hp40 := h.1.2.2.1.2.1
  have hwk := h.1.1.2.2.2.2.2.2.2.1
  obtain ⟨v, S2, -, k1, -, k3, k4, -⟩ := pf_voters h
  have hw2 : Rw S2 S 0 0 := h.toS (k4.g (by decide)) (k4.g (by decide)) (k4.g (by decide)) (k4.g (by decide))
  have e2 : ∀ r k, S2 2 r k = S 2 r k := fun r k => k4 2 r k (by omega)
  have hsh : ∀ {U : Sg}, (∀ (g : Nat) (r k j : Int), (g = 10 ∨ g = 9 ∧ 1 ≤ k) → U g r k j = S g r k j) → 0 ≤ d → d < 8 → Rs12 S2 U d := by
    intro U hU a b
    have c := hs d a b
    refine ⟨by rw [hU 9 0 1 d (by omega), e2]; exact c.1, by rw [e2]; exact c.2.1, fun q => ?_⟩
    rw [e2] at q
    have c2 := c.2.2.1 q
    rw [hU 9 0 2 d (by omega), hU 9 0 3 d (by omega), e2, e2]
    refine ⟨c2.1, c2.2.1, c2.2.2.1, c2.2.2.2.1, fun i a b => ?_⟩
    rw [hU 10 d 0 i (by omega)]
    exact c2.2.2.2.2 i a b
  obtain ⟨a, S3, -, f1, f2, -, -⟩ := pf_O_fault (S := S2) (T := S) (d := d) (hsh (fun _ _ _ _ _ => rfl))
  -- the reference, from any memory in which its cells are as they were
  have ref : ∀ U : Sg, (∀ (g : Nat) (r k j : Int), 5 ≤ g → g ≤ 11 → U g r k j = S g r k j) → ∃ T1 T2 : Sg, zf_W_votersNow 0 (zu U 9 0 0 4 0) = some (v, T1) ∧ WF 0 (zu U 9 0 0 4 0) T1 ∧ MF T1 T2 ∧ (0 ≤ d → d < 8 → Rs12 S2 T1 d) ∧ ((¬ (0 ≤ d ∧ d < 8) ∧ a = -1 ∧ S3 = S2 ∧ T2 = T1) ∨ ((0 ≤ d ∧ d < 8) ∧ ((S2 2 d 0 0 = 0 ∧ a = -11 ∧ S3 = S2 ∧ T2 = T1) ∨ (S2 2 d 0 0 ≠ 0 ∧ ¬ (S2 2 d 0 0 = 3 ∧ S2 2 d 0 4 = 0) ∧ a = -12 ∧ S3 = S2 ∧ T2 = T1) ∨ ((S2 2 d 0 0 = 3 ∧ S2 2 d 0 4 = 0) ∧ zf_M_faultOf d T1 = some (a, T2) ∧ (a = -2 ∨ (0 ≤ a ∧ a ≤ 120)) ∧ (a = -2 → ∃ L e, (pTx L).2 = some e ∧ (L.length : Int) = S2 2 d 0 5 ∧ Ltr (S2 2 d 1) L ∧ S3 3 0 4 2 = e.length ∧ Sq (S3 3 0 5) 0 e ∧ e.length ≤ 120 ∧ S3 3 0 4 0 = sbj (S2 2 d 1 0)))))) := by
    intro U hU
    have hU2 : ∀ (g : Nat) (r k j : Int), 5 ≤ g → g ≤ 11 → ¬ (g = 9 ∧ r = 0 ∧ k = 0 ∧ j = 4) → zu U 9 0 0 4 0 g r k j = S g r k j := fun g r k j q1 q2 q3 => by
      rw [show zu U 9 0 0 4 0 g r k j = U g r k j from if_neg q3]
      exact hU g r k j q1 q2
    obtain ⟨v', S2', T1, l1, l2, -, -, l5⟩ := pf_voters (h.toT (gWk (fun g r k j a b => hU2 g r k j a (by omega) (by omega))))
    rw [k1] at l1
    cases l1
    have hT1 : ∀ (g : Nat) (r k j : Int), (g = 10 ∨ g = 9 ∧ 1 ≤ k) → T1 g r k j = S g r k j := by
      intro g r k j q
      rw [l5 g r k j (by omega)]
      exact hU2 g r k j (by omega) (by omega) (by omega)
    obtain ⟨a', S3', T2, m1, -, m3, m4⟩ := pf_O_fault (S := S2) (T := T1) (d := d) (hsh hT1)
    rw [f1] at m1
    cases m1
    exact ⟨T1, T2, l2, l5, m3, hsh hT1, m4⟩
  have keepC : ∀ {U : Sg}, VC S U → (∀ (g : Nat) (r k j : Int), 5 ≤ g → g ≤ 11 → U g r k j = S g r k j) := fun hU g r k j a b => by rw [hU g r k (by omega) (by omega) (by omega)]
  have vc2 : VC S S2 := fun g r k a _ _ => k4 g r k (by omega)
  have vc3 : VC S S3 := fun g r k a b c => by
    rw [f2 g r k (by omega)]
    exact vc2 g r k a b c
  have vm : ∀ {U T1 T2 : Sg}, WF 0 (zu U 9 0 0 4 0) T1 → MF T1 T2 → VM (S 0 0 16 0) U T2 := by
    intro U T1 T2 q1 q2 g r k j z1 z2 z3
    rw [q2 g r k j (by omega), q1 g r k j (by omega)]
    exact if_neg (by omega)
  have vm1 : ∀ {U T1 : Sg}, WF 0 (zu U 9 0 0 4 0) T1 → VM (S 0 0 16 0) U T1 := by
    intro U T1 q1 g r k j z1 z2 z3
    rw [q1 g r k j (by omega)]
    exact if_neg (by omega)
  have wkU : ∀ {U T2 : Sg}, VC S U → (∀ (g : Nat) (r k j : Int), 5 ≤ g → g ≤ 8 → ¬ (g = 5 ∧ r = 0 ∧ (k = 35 ∨ k = 0 ∧ 47 ≤ j ∧ j ≤ 49)) → T2 g r k j = U g r k j) → Wk S T2 0 0 := by
    intro U T2 hU hT
    refine Wk.eq (fun i hi => ?_) (fun k a b => ?_) ?_ ?_ ?_
    · rw [hT 5 0 0 i (by decide) (by decide) (by omega)]; exact keepC hU 5 0 0 i (by decide) (by decide)
    · funext j; rw [hT 5 0 k j (by decide) (by decide) (by omega)]; exact keepC hU 5 0 k j (by decide) (by decide)
    · funext r k j; rw [hT 6 r k j (by decide) (by decide) (by omega)]; exact keepC hU 6 r k j (by decide) (by decide)
    · funext r k j; rw [hT 7 r k j (by decide) (by decide) (by omega)]; exact keepC hU 7 r k j (by decide) (by decide)
    · funext r k j; rw [hT 8 r k j (by decide) (by decide) (by omega)]; exact keepC hU 8 r k j (by decide) (by decide)
  have wfw : ∀ {U T1 : Sg}, WF 0 (zu U 9 0 0 4 0) T1 → (∀ (g : Nat) (r k j : Int), 5 ≤ g → g ≤ 8 → ¬ (g = 5 ∧ r = 0 ∧ (k = 35 ∨ k = 0 ∧ 47 ≤ j ∧ j ≤ 49)) → T1 g r k j = U g r k j) := by
    intro U T1 q1 g r k j z1 z2 z3
    rw [q1 g r k j z3]
    exact if_neg (by omega)
  have wfm : ∀ {U T1 T2 : Sg}, WF 0 (zu U 9 0 0 4 0) T1 → MF T1 T2 → (∀ (g : Nat) (r k j : Int), 5 ≤ g → g ≤ 8 → ¬ (g = 5 ∧ r = 0 ∧ (k = 35 ∨ k = 0 ∧ 47 ≤ j ∧ j ≤ 49)) → T2 g r k j = U g r k j) := by
    intro U T1 T2 q1 q2 g r k j z1 z2 z3
    rw [q2 g r k j (by omega)]
    exact wfw q1 g r k j z1 z2 z3
  unfold zf_O_vote
  rw [k1, zbd_s, pf_O_isShelf, zbd_s]
  have w3 : Rw S3 S 0 0 := hw2.toS (by funext r k; exact f2 0 r k (by omega)) (by funext r k; exact f2 1 r k (by omega)) (by funext r k; exact f2 13 r k (by omega)) (by funext r k; exact f2 14 r k (by omega))
  have s16 : S3 0 0 16 0 = S 0 0 16 0 := by rw [f2 0 0 16 (by omega), k4 0 0 16 (by omega)]
  have s16b : S2 0 0 16 0 = S 0 0 16 0 := by rw [k4 0 0 16 (by omega)]
  have s00 : S3 0 0 0 0 = S 0 0 0 0 := by rw [f2 0 0 0 (by omega), k4 0 0 0 (by omega)]
  by_cases hd : 0 ≤ d ∧ d < 8
  · rw [if_pos hd, if_neg n10]
    by_cases hn : 0 ≤ n ∧ n ≤ v
    · rw [if_neg (show ¬ n < 0 by omega), if_pos hn.2, f1, zbd_s]
      by_cases a11 : a = -11 ∨ a = -12
      · -- nothing held, or no text
        have e0 : (if a = -11 then some (a, S3) else if a = -12 then some (a, S3) else if a = -2 then (if S3 0 0 16 0 < 12 then (if v < zw (2 * n) then (zck (0 ≤ d ∧ d < 8) <| zbd (zf_L_add 0 (S3 2 d 0 5) (S3 0 0 0 0) n v S3) fun a16 S17 => some (a16, S17)) else some (-3, S3)) else some (-2, S3)) else some (zw (-100 - a), S3)) = some (a, S3) := by
          rcases a11 with q | q
          · rw [if_pos q]
          · rw [if_neg (by omega), if_pos q]
        rw [e0]
        obtain ⟨T1, T2, m1, m2, m3, m4, m5⟩ := ref S3 (keepC vc3)
        have m4' := m4 hd.1 hd.2
        rcases m5 with ⟨q, -⟩ | ⟨-, m5⟩
        · exact absurd hd q
        · have fin : ∀ q : S3 = S2 ∧ T2 = T1, (if T1 9 0 1 d = 0 then (-11 : Int) else if T1 9 0 1 d = 3 ∧ T1 9 0 2 d = 0 then 0 else -12) = a → ∃ (a0 : Int) (S1 S2_1 : Sg), some (a, S3) = some (a0, S1) ∧ zf_M_vote d n S1 = some (a0, S2_1) ∧ Rw S1 S2_1 0 0 ∧ VC S S1 ∧ VM (S 0 0 16 0) S1 S2_1 ∧ S 0 0 16 0 ≤ S1 0 0 16 0 := by
            intro q qa
            refine ⟨a, S3, T1, rfl, ?_, w3.toT (wkU vc3 (wfw m2)), vc3, vm1 m2, by omega⟩
            unfold zf_M_vote
            rw [zlt_v, m1, zbd_s, pf_M_isShelf, zbd_s, if_pos hd, if_neg n10, pf_M_in, zbd_s, if_pos hn, if_neg n10, pf_M_noBytes hd, qa, zbd_s, if_neg (show ¬ a = 0 by omega), pf_M_noBytes hd, qa, zbd_s]
          have nb := nb_like m4'
          rcases m5 with ⟨q0, q1, q2, q3⟩ | ⟨q0, q00, q1, q2, q3⟩ | ⟨q0, q1, q2, q3⟩
          · exact fin ⟨q2, q3⟩ (by rw [nb, if_pos q0, q1])
          · exact fin ⟨q2, q3⟩ (by rw [nb, if_neg q0, if_neg q00, q1])
          · exfalso
            clear q3 nb fin ref m4 m4'
            rcases a11 with z | z <;> rcases q2 with z2 | z2 <;> omega
      · rw [if_neg (show ¬ a = -11 by omega), if_neg (show ¬ a = -12 by omega)]
        -- the head of the reference's road
        have head : ∀ U : Sg, VC S U → ∃ T1 T2 : Sg, zf_M_vote d n U = (if a = (-2) then (if (T2 5 0 0 16) = 12 then (some (-2, T2)) else (if v < (zw (2 * n)) then (zlt (T2 5 0 0 16) fun v18 => zck (0 ≤ d ∧ d < 8) <| zck (0 ≤ v18 ∧ v18 < 12) <| zck ((0 : Int) ≤ 0 ∧ (0 : Int) ≤ 0 ∧ (0 : Int) ≤ (T2 9 0 3 d) ∧ (0 + (T2 9 0 3 d) : Int) ≤ 120 ∧ (0 + (T2 9 0 3 d) : Int) ≤ 120) <| zlt (zcp T2 10 d 0 0 6 0 v18 0 (T2 9 0 3 d)) fun S22 => zlt (zu S22 5 0 14 v18 (S22 9 0 3 d)) fun S23 => zlt (zu S23 5 0 15 v18 (zw ((S23 5 0 0 0) + 1))) fun S24 => zlt (zu S24 5 0 16 v18 n) fun S25 => zlt (zu S25 5 0 17 v18 v) fun S26 => zbd (zf_W_force (0) 0 (S26 5 0 0 0) S26) fun a27 S28 => zlt (zu S28 5 0 18 v18 a27) fun S29 => zlt (zu S29 5 0 19 v18 0) fun S30 => zlt (zu S30 5 0 20 v18 (-2)) fun S31 => zlt (zu S31 5 0 0 16 (zw ((S31 5 0 0 16) + 1))) fun S32 => some (S31 5 0 0 16, S32)) else (some (-3, T2)))) else (some (zw ((-100) - a), T2))) ∧ WF 0 (zu U 9 0 0 4 0) T1 ∧ MF T1 T2 ∧ Rs12 S2 T1 d ∧ (S2 2 d 0 0 = 3) ∧ (a = -2 ∨ (0 ≤ a ∧ a ≤ 120)) ∧ (a = -2 → ∃ L e, (pTx L).2 = some e ∧ (L.length : Int) = S2 2 d 0 5 ∧ Ltr (S2 2 d 1) L ∧ S3 3 0 4 2 = e.length ∧ Sq (S3 3 0 5) 0 e ∧ e.length ≤ 120 ∧ S3 3 0 4 0 = sbj (S2 2 d 1 0)) := by
          intro U hU
          obtain ⟨T1, T2, m1, m2, m3, m4, m5⟩ := ref U (keepC hU)
          have m4' := m4 hd.1 hd.2
          rcases m5 with ⟨q, -⟩ | ⟨-, m5⟩
          · exact absurd hd q
          · rcases m5 with ⟨q0, q1, q2, q3⟩ | ⟨q0, q00, q1, q2, q3⟩ | ⟨q0, q1, q2, q3⟩
            · omega
            · omega
            · refine ⟨T1, T2, ?_, m2, m3, m4', q0.1, q2, q3⟩
              have nb := nb_like m4'
              rw [if_neg (show ¬ S2 2 d 0 0 = 0 by omega), if_pos q0] at nb
              unfold zf_M_vote
              rw [zlt_v, m1, zbd_s, pf_M_isShelf, zbd_s, if_pos hd, if_neg n10, pf_M_in, zbd_s, if_pos hn, if_neg n10, pf_M_noBytes hd, nb, zbd_s, if_pos z00, q1, zbd_s]
        by_cases a2 : a = -2
        · rw [if_pos a2]
          have t16 : ∀ {U T1 T2 : Sg}, VC S U → WF 0 (zu U 9 0 0 4 0) T1 → MF T1 T2 → T2 5 0 0 16 = S 0 0 16 0 := by
            intro U T1 T2 hU q1 q2
            rw [wfm q1 q2 5 0 0 16 (by decide) (by decide) (by omega), keepC hU 5 0 0 16 (by decide) (by decide)]
            exact hL.1
          by_cases h12 : S 0 0 16 0 < 12
          · rw [if_pos (by rw [s16]; exact h12)]
            by_cases h2n : v < zw (2 * n)
            · rw [if_pos h2n, zck_b hd]
              -- the law is made
              obtain ⟨-, -, -, -, -, -, q3sh, -, q3⟩ := head S (fun _ _ _ _ _ _ => rfl)
              obtain ⟨L, e, c1, c2, c3, c4, c5, c6, c7⟩ := q3 a2
              have csz := (hs d hd.1 hd.2).2.2.1 (by rw [← e2]; exact q3sh)
              have hN := hL.2.1
              -- the class
              unfold zf_L_add
              rw [if_pos (by rw [s16]; exact h12), zlt_v, s16, zck_b (by omega)]
              simp only [zlt_v]
              rw [s00, zw_in (x := S 0 0 0 0 + 1) (by omega) (by omega), zw_in (x := S 0 0 16 0 + 1) (by omega) (by omega)]
              generalize hB : zu (zu (zu (zu (zu (zu S3 0 0 17 (S 0 0 16 0) (S3 3 0 4 0)) 0 0 18 (S 0 0 16 0) (S 0 0 0 0 + 1)) 0 0 19 (S 0 0 16 0) n) 0 0 20 (S 0 0 16 0) v) 0 0 21 (S 0 0 16 0) 0) 0 0 22 (S 0 0 16 0) (-1) = B
              have lB : Rla B S 0 0 := by
                refine w3.2.1.low (N := S 0 0 16 0) s16 ?_ rfl ?_ (fun _ _ _ _ _ => rfl) (fun _ _ => rfl)
                · rw [← hB]; simp [zu]; exact s16
                · intro k i a b q
                  rw [← hB]
                  simp [zu, q]
              obtain ⟨u, g1, -, g3, g4⟩ := pf_force lB 0 (S 0 0 0 0)
              have gB16 : B 0 0 16 0 = S 0 0 16 0 := by rw [← hB]; simp [zu]; exact s16
              have gu : 0 ≤ u → S3 0 0 21 u = 0 := by
                intro q
                have := pf_inF (by rw [gB16]; exact hN) g1 q
                rw [← hB] at this
                rw [gB16] at g4
                simp [zu] at this
                exact this (by omega)
              rw [g1, zbd_s, zbd_s]
              have eC : zu (zcp (zu (zu (zu B 0 0 23 (S 0 0 16 0) u) 0 0 24 (S 0 0 16 0) (S3 2 d 0 5)) 0 0 25 (S 0 0 16 0) (zu (zu B 0 0 23 (S 0 0 16 0) u) 0 0 24 (S 0 0 16 0) (S3 2 d 0 5) 3 0 4 2)) 3 0 5 0 1 (S 0 0 16 0) 0 0 120) 0 0 16 0 (S 0 0 16 0 + 1) = addC S3 (S 0 0 16 0) (S3 2 d 0 5) (S 0 0 0 0) n v u := by
                rw [show zu (zu B 0 0 23 (S 0 0 16 0) u) 0 0 24 (S 0 0 16 0) (S3 2 d 0 5) 3 0 4 2 = S3 3 0 4 2 by rw [← hB]; simp [zu], ← hB]
                rfl
              rw [eC]
              have vcA : VC S (addC S3 (S 0 0 16 0) (S3 2 d 0 5) (S 0 0 0 0) n v u) := by
                intro g r k z1 z2 z3
                rw [← vc3 g r k z1 z2 z3]
                unfold addC
                simp (discharger := omega) only [zu_ne, zcp_nr]
              obtain ⟨T1, T2, m1, m2, m3, m4, -, -, -⟩ := head _ vcA
              have t16' := t16 vcA m2 m3
              have wT2 : Rw S3 T2 0 0 := w3.toT (wkU vcA (wfm m2 m3))
              have t93 : T2 9 0 3 d = S3 2 d 0 5 := by
                rw [m3 9 0 3 d (by omega), (m4.2.2 q3sh).2.1, f2 2 d 0 (by omega)]
              have t10 : ∀ i, 0 ≤ i → i < S3 2 d 0 5 → T2 10 d 0 i = S2 2 d 1 i := by
                intro i z1 z2
                rw [m3 10 d 0 i (by omega)]
                exact (m4.2.2 q3sh).2.2.2.2 i z1 (by rw [f2 2 d 0 (by omega)] at z2; exact z2)
              have s5 : S3 2 d 0 5 = S 2 d 0 5 := by rw [f2 2 d 0 (by omega), e2]
              have c2' : (L.length : Int) = S3 2 d 0 5 := by rw [c2, f2 2 d 0 (by omega)]
              have hLp : 0 < L.length := by
                cases hLL : L with
                | nil => exact absurd hLL (pTx_head c1)
                | cons x t => simp
              refine ⟨S 0 0 16 0, _, addM T2 d (S 0 0 16 0) (S3 2 d 0 5) (S 0 0 0 0) n v (pv u), rfl, ?_, ?_, vcA, ?_, ?_⟩
              · rw [m1, if_pos a2, if_neg (by rw [t16']; omega), if_pos h2n, zlt_v, t16', zck_b hd, zck_b (by omega), t93, zck_b (by omega)]
                simp only [zlt_v]
                have x1 : zcp T2 10 d 0 0 6 0 (S 0 0 16 0) 0 (S3 2 d 0 5) 9 0 3 d = S3 2 d 0 5 := by rw [zcp_nr (by omega)]; exact t93
                have x2 : T2 5 0 0 0 = S 0 0 0 0 := by rw [wT2.1.1.1, s00]
                rw [x1]
                generalize hA : zu (zcp T2 10 d 0 0 6 0 (S 0 0 16 0) 0 (S3 2 d 0 5)) 5 0 14 (S 0 0 16 0) (S3 2 d 0 5) = A
                have x3 : A 5 0 0 0 = S 0 0 0 0 := by rw [← hA]; simp [zu, zcp]; exact x2
                rw [x3, zw_in (x := S 0 0 0 0 + 1) (by omega) (by omega)]
                generalize hA2 : zu (zu (zu A 5 0 15 (S 0 0 16 0) (S 0 0 0 0 + 1)) 5 0 16 (S 0 0 16 0) n) 5 0 17 (S 0 0 16 0) v = A2
                have x4 : A2 5 0 0 0 = S 0 0 0 0 := by rw [← hA2]; simp [zu]; exact x3
                have x5 : A2 5 0 0 16 = S 0 0 16 0 := by rw [← hA2, ← hA]; simp [zu, zcp]; exact t16'
                rw [x4]
                have lA : Rla B A2 0 0 := by
                  refine wT2.2.1.low (N := S 0 0 16 0) s16 gB16 ?_ ?_ ?_ ?_
                  · rw [← hA2, ← hA]; simp [zu, zcp]
                  · intro k i a b q
                    rw [← hB]
                    simp [zu, q]
                  · intro k i a b q
                    rw [← hA2, ← hA]
                    simp [zu, zcp, q]
                  · intro k q
                    rw [← hA2, ← hA]
                    simp (discharger := omega) only [zu_ne, zcp_nr]
                obtain ⟨u', g1', g2', -, -⟩ := pf_force lA 0 (S 0 0 0 0)
                rw [g1] at g1'
                cases g1'
                rw [g2', zbd_s, show zu (zu (zu A2 5 0 18 (S 0 0 16 0) (pv u)) 5 0 19 (S 0 0 16 0) 0) 5 0 20 (S 0 0 16 0) (-2) 5 0 0 16 = S 0 0 16 0 by simp [zu]; exact x5, zw_in (x := S 0 0 16 0 + 1) (by omega) (by omega), ← hA2, ← hA]
                rfl
              · refine add_rel (L := L) (e := e) wT2 s16 (by omega) hwk hn (by omega) ⟨g3, by rw [gB16] at g4; exact g4⟩ gu c1 c2' (by omega) (c3.ext (fun j z1 z2 => t10 j z1 (by omega))) ?_ c4 c5 c6
                rw [c7, t10 0 (by decide) (by omega)]
              · intro g r k j z1 z2 z3
                rw [show addM T2 d (S 0 0 16 0) (S3 2 d 0 5) (S 0 0 0 0) n v (pv u) g r k j = T2 g r k j by
                  unfold addM
                  simp only [zu, zcp]
                  rw [if_neg (by omega), if_neg (by omega), if_neg (by omega), if_neg (by omega), if_neg (by omega), if_neg (by omega), if_neg (by omega), if_neg (by omega), if_neg (by omega)]]
                exact vm m2 m3 g r k j z1 z2 z3
              · unfold addC; simp [zu]; omega
            · rw [if_neg h2n]
              obtain ⟨T1, T2, m1, m2, m3, -, -, -, -⟩ := head S3 vc3
              refine ⟨-3, S3, T2, rfl, ?_, w3.toT (wkU vc3 (wfm m2 m3)), vc3, vm m2 m3, by omega⟩
              rw [m1, if_pos a2, if_neg (by rw [t16 vc3 m2 m3]; omega), if_neg h2n]
          · rw [if_neg (by rw [s16]; exact h12)]
            obtain ⟨T1, T2, m1, m2, m3, -, -, -, -⟩ := head S3 vc3
            have hN := hL.2.1
            refine ⟨-2, S3, T2, rfl, ?_, w3.toT (wkU vc3 (wfm m2 m3)), vc3, vm m2 m3, by omega⟩
            rw [m1, if_pos a2, if_pos (by rw [t16 vc3 m2 m3]; omega)]
        · rw [if_neg a2]
          obtain ⟨T1, T2, m1, m2, m3, -, -, -, -⟩ := head S3 vc3
          refine ⟨_, S3, T2, rfl, ?_, w3.toT (wkU vc3 (wfm m2 m3)), vc3, vm m2 m3, by omega⟩
          rw [m1, if_neg a2]
    · have e0 : ∀ y : Option (Int × Sg), (if n < 0 then some ((-1 : Int), S2) else if n ≤ v then y else some (-1, S2)) = some (-1, S2) := by
        intro y
        by_cases q : n < 0
        · rw [if_pos q]
        · rw [if_neg q, if_neg (by omega)]
      rw [e0]
      obtain ⟨T1, T2, m1, m2, m3, m4, m5⟩ := ref S2 (keepC vc2)
      refine ⟨-1, S2, T1, rfl, ?_, hw2.toT (wkU vc2 (wfw m2)), vc2, vm1 m2, by omega⟩
      unfold zf_M_vote
      rw [zlt_v, m1, zbd_s, pf_M_isShelf, zbd_s, if_pos hd, if_neg n10, pf_M_in, zbd_s, if_neg hn, if_pos z00]
  · rw [if_neg hd, if_pos z00]
    obtain ⟨T1, T2, m1, m2, m3, m4, m5⟩ := ref S2 (keepC vc2)
    refine ⟨-1, S2, T1, rfl, ?_, hw2.toT (wkU vc2 (wfw m2)), vc2, vm1 m2, by omega⟩
    unfold zf_M_vote
    rw [zlt_v, m1, zbd_s, pf_M_isShelf, zbd_s, if_neg hd, if_pos z00]
