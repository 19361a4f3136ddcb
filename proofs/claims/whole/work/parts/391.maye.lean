/-! ===== whether a law holds, while the reference notes who is fed ===== -/
def EF (w : Int) (T T2 : Sg) : Prop := ∀ (g : Nat) (r' k j : Int), ¬ (g = 5 ∧ r' = w ∧ (k = 35 ∨ k = 9 ∨ k = 34 ∨ k = 39 ∨ k = 40 ∨ k = 0 ∧ 47 ≤ j ∧ j ≤ 49)) → T2 g r' k j = T g r' k j
theorem EF.refl (w : Int) (T : Sg) : EF w T T := fun _ _ _ _ _ => rfl
theorem EF.trans {w : Int} {T T2 T3 : Sg} (h : EF w T T2) (h2 : EF w T2 T3) : EF w T T3 := fun g r' k j q => (h2 g r' k j q).trans (h g r' k j q)
theorem EF.put {w k j v : Int} {T : Sg} (hk : k = 9 ∨ k = 34 ∨ k = 39 ∨ k = 40) : EF w T (zu T 5 w k j v) := fun g r' k' j' q => if_neg (by omega)
theorem WF.ef {w : Int} {T T2 : Sg} (h : WF w T T2) : EF w T T2 := fun g r' k j q => h g r' k j (by omega)
theorem w_fieldE {S T U : Sg} {r w p : Int} (hR : Ri S T r w) (hp : 0 ≤ p ∧ p < S 0 r 6 0) (hU : ∀ (g : Nat) (r' k j : Int), ¬ (g = 5 ∧ r' = w ∧ (k = 35 ∨ k = 9 ∨ k = 34 ∨ k = 39 ∨ k = 40 ∨ k = 0 ∧ 47 ≤ j ∧ j ≤ 49)) → U g r' k j = T g r' k j) (h49 : U 5 w 0 49 = p) {c : Int} (hc : fldS c < 0) : zf_W_field w c U = some (Fld S r p (-1 - fldS c), U) := by
  obtain ⟨hsc, hho, hpp, -⟩ := hR
  have hwk := hsc.1
  have hwr := hsc.2.2.2.2.2.2.2.1
  have hn := hpp.2.1
  have q := hpp.2.2 p hp.1 hp.2
  unfold Rp12 at q
  have hp4 : 0 ≤ p ∧ p < 40 := by omega
  have hq := hho (S 0 r 8 p) (by omega) (by omega)
  unfold Rh12 at hq
  have eU : ∀ k j, (k ≠ 35 ∧ k ≠ 9 ∧ k ≠ 34 ∧ k ≠ 39 ∧ k ≠ 40 ∧ (k ≠ 0 ∨ j < 47)) → U 5 w k j = T 5 w k j := fun k j z => hU 5 w k j (by omega)
  have eR : ∀ k, k ≠ 35 ∧ k ≠ 9 ∧ k ≠ 34 ∧ k ≠ 39 ∧ k ≠ 40 ∧ k ≠ 0 → U 5 w k = T 5 w k := fun k z => by funext j; exact eU k j (by omega)
  have g1 : -5000 ≤ U 5 w 1 p ∧ U 5 w 1 p ≤ 400 := by rw [eU 1 p (by omega)]; omega
  have g0 : 0 ≤ U 5 w 0 0 ∧ U 5 w 0 0 ≤ 400 := by rw [eU 0 0 (by omega)]; omega
  have gn : 0 ≤ U 5 w 0 1 ∧ U 5 w 0 1 ≤ 40 := by rw [eU 0 1 (by omega), hpp.1]; exact hn
  unfold zf_W_field
  simp only [h49]
  rcases fldS_cases hc with e | e | e | e | e | e | e
  · subst e
    rw [if_pos rfl, pf_W_age hp4 g1 g0, zbd_s, eU 0 0 (by omega), eU 1 p (by omega), hwk, q.1]
    rfl
  · subst e
    rw [if_neg (by decide), if_pos rfl, zck_b hp4, eU 2 p (by omega), q.2.1, zck_b (by omega), eU 10 _ (by omega), hq.1]
    rfl
  · subst e
    rw [if_neg (by decide), if_neg (by decide), if_neg (by decide), if_neg (by decide), if_neg (by decide), if_neg (by decide), zck_b hp4, eU 7 p (by omega), q.2.2.2.2.2.2.1]
    rfl
  · subst e
    rw [if_neg (by decide), if_neg (by decide), if_pos rfl, zck_b hp4, eU 2 p (by omega), q.2.1, pf_W_heads gn, zbd_s]
    have e1 : hdM U w (S 0 r 8 p) = hdM T w (S 0 r 8 p) := by
      unfold hdM
      rw [eR 5 (by omega), eR 2 (by omega)]
    rw [e1, eU 0 1 (by omega), hd_like2 hpp]
    rfl
  · subst e
    rw [if_neg (by decide), if_neg (by decide), if_neg (by decide), if_pos rfl, pf_W_kind hp4 g1 g0, zbd_s, eU 0 0 (by omega), eU 1 p (by omega), eU 4 p (by omega), eU 5 p (by omega), eU 6 p (by omega), hwk, q.1, q.2.2.2.1, q.2.2.2.2.1, q.2.2.2.2.2.1]
    rfl
  · subst e
    rw [if_neg (by decide), if_neg (by decide), if_neg (by decide), if_neg (by decide), if_pos rfl, zck_b hp4, pf_Ji_bitCount, zbd_s, eU 4 p (by omega), q.2.2.2.1]
    rfl
  · subst e
    rw [if_neg (by decide), if_neg (by decide), if_neg (by decide), if_neg (by decide), if_neg (by decide), if_pos rfl, eU 0 0 (by omega), hwk]
    rfl
theorem pf_mayE {S T0 T : Sg} {r w p : Int} (s : Int) (h : Rw S T0 r w) (hT : EF w T0 T) (hp : 0 ≤ p ∧ p < S 0 r 6 0) : ∃ v S2 T2, zf_J_allows r s p S = some (v, S2) ∧ zf_W_may w p s T = some (v, T2) ∧ b2 v ∧ JF S S2 ∧ WF w T T2 := by
  obtain ⟨hR, hL0, hC0⟩ := h
  obtain ⟨hsc, hho, hpp, -⟩ := id hR
  have hwk : T 5 w 0 0 = S 0 r 0 0 := by rw [hT 5 w 0 0 (by omega)]; exact hsc.1
  have eg6 : T 6 = T0 6 := by funext r' k j; exact hT 6 r' k j (by omega)
  have hL : Rla S T r w := hL0.to (fun _ _ _ => rfl) (fun k a b => by funext j; exact hT 5 w k j (by omega)) (hT 5 w 0 16 (by omega)) eg6
  have hC : Rco S T r w := by
    intro l a b
    obtain ⟨L, e, c1, c2, c3, c4, c5, c6, c7⟩ := hC0 l a b
    exact ⟨L, e, c1, by rw [hT 5 w 14 l (by omega)]; exact c2, c3, by rw [eg6]; exact c4, c5, c6, c7⟩
  have hwr := hsc.2.2.2.2.2.2.2.1
  have hn := hpp.2.1
  have q := hpp.2.2 p hp.1 hp.2
  unfold Rp12 at q
  have q1 : T 5 w 1 p = S 0 r 7 p := by rw [hT 5 w 1 p (by omega)]; exact q.1
  have hp4 : 0 ≤ p ∧ p < 40 := by omega
  obtain ⟨v, f1, f2, f3, f4⟩ := pf_force hL s (S 0 r 0 0)
  unfold zf_J_allows zf_W_may
  rw [f1, zbd_s, hwk, f2, zbd_s]
  by_cases h0 : 0 ≤ v
  · rw [if_pos h0, show pv v = v by unfold pv; rw [if_neg (by omega)], if_neg (by omega)]
    have hl12 := hL.2.1
    obtain ⟨L, e, c1, c2, c3, c4, c5, c6, c7⟩ := hC v h0 f4
    obtain ⟨S2, k1, k2, k3⟩ := j_look (S := S) (r := r) (p := p) hwr hn hp4 (by omega) (by omega)
    rw [k1, zbd_s, zck_b (by omega)]
    -- the reference
    unfold zf_W_holds
    rw [zck_b (by omega), ← c2, zck_b (by omega)]
    simp only [zlt_v]
    have e14 : zcp T 6 w v 0 5 w 35 0 L.length 5 w 14 v = L.length := by
      rw [zcp_nr (by omega)]; exact c2.symm
    rw [e14, zck_b (by omega)]
    generalize hU : zu (zu (zu (zu (zcp T 6 w v 0 5 w 35 0 L.length) 5 w 35 L.length 0) 5 w 0 47 1) 5 w 0 48 2) 5 w 0 49 p = U
    have fU : WF w T U := by
      intro g r' k j z
      rw [← hU]
      simp only [zu, zcp]
      rw [if_neg (by omega), if_neg (by omega), if_neg (by omega), if_neg (by omega), if_neg (by omega)]
    have u35 : ∀ j : Int, 0 ≤ j → j < L.length → U 5 w 35 j = T 6 w v j := by
      intro j a b
      rw [← hU]
      simp only [zu, zcp]
      rw [if_neg (by omega), if_neg (by omega), if_neg (by omega), if_neg (by omega)]
      rw [if_pos ⟨trivial, trivial, trivial, a, by omega⟩]
      congr 1
      omega
    have un : U 5 w 35 L.length = 0 := by rw [← hU]; simp [zu]
    have u47 : U 5 w 0 47 = 1 := by rw [← hU]; simp [zu]
    have u48 : U 5 w 0 48 = 2 := by rw [← hU]; simp [zu]
    have u49 : U 5 w 0 49 = p := by rw [← hU]; simp [zu]
    clear hU
    have he : WE L w (Fld S r p) U := by
      refine ⟨c3, c4.ext u35, un, u47, ?_⟩
      intro V c hV hc
      refine w_fieldE hR hp (fun g r' k j z => ?_) ?_ hc
      · rw [hV g r' k j (by omega), fU g r' k j (by omega)]; exact hT g r' k j (by omega)
      · rw [hV 5 w 0 49 (by omega)]; exact u49
    obtain ⟨T2, u, m1, m2, m3, m4⟩ := w_text he c1 (T := U) (fun _ _ _ _ _ => rfl) u48
    rw [m1, zbd_s, zck_b m4, zbd_s, zck_b m4]
    have c5' : S2 0 r 25 v = e.length := by rw [k2 0 r 25 (by omega)]; exact c5
    rw [c5']
    obtain ⟨S3, n1, n2⟩ := j_runs (g := 1) (l := v) (q := 0) (F := Fld S r p) (S := S2) (by decide) c7 (by rw [k2 1 v 0 (by omega)]; exact c6) k3 m3
    rw [n1, zbd_s]
    have eu : (if u = 0 then (0 : Int) else 1) = u := by
      rcases m4 with z | z <;> subst z <;> rfl
    rw [eu, zck_b m4]
    refine ⟨u, S3, T2, rfl, rfl, m4, k2.trans n2, fun g r' k j z => ?_⟩
    rw [m2 g r' k j (by omega)]
    exact fU g r' k j z
  · rw [if_neg h0, show pv v = -2 by unfold pv; rw [if_pos (by omega)], if_pos rfl]
    unfold zf_J_allowsWithoutLaw
    by_cases hs : s = 0
    · rw [if_pos hs, if_pos hs, pf_P_age hp4 (by omega) hwr, zbd_s, pf_W_age hp4 (by rw [q1]; omega) (by rw [hwk]; exact hwr), zbd_s, hwk, q1, ite_some2, ite_some2]
      have hb := b2_ite (ageS (S 0 r 0 0) (S 0 r 7 p) < 18)
      rw [zbd_s, zck_b hb]
      exact ⟨_, S, T, rfl, rfl, hb, JF.refl S, WF.refl w T⟩
    · rw [if_neg hs, if_neg hs, ite_some2]
      have hb := b2_ite (s = 2)
      rw [zbd_s, zck_b hb, ite_some2]
      exact ⟨_, S, T, rfl, rfl, hb, JF.refl S, WF.refl w T⟩
