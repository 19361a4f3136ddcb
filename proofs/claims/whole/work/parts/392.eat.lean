/-! ===== a week: all eat (class on S, reference on T; S0, T0 as they were before) ===== -/
def nds (S : Sg) (r p : Int) : Int := needS (knd S r p (S 0 r 0 0)) (decide (0 ≤ S 0 r 14 p))
theorem nds_in (S : Sg) (r p : Int) : 0 ≤ nds S r p ∧ nds S r p ≤ 5 := by
  unfold nds needS
  repeat' split
  all_goals decide
theorem nds_out {S : Sg} {r p : Int} (h : S 0 r 11 p ≠ 0) (h2 : 0 ≤ S 0 r 11 p ∧ S 0 r 11 p ≤ 2) : nds S r p = 0 := by
  unfold nds knd kindS
  by_cases e : S 0 r 11 p = 2
  · rw [if_pos e]; rfl
  · rw [if_neg e, if_pos (show S 0 r 11 p = 1 by omega)]; rfl
/-- what the class changes while it shares out -/
def CE (S S2 : Sg) : Prop := ∀ (g : Nat) (r' k : Int), ¬ (g = 3 ∧ r' = 0 ∧ (7 ≤ k ∧ k ≤ 9 ∨ k = 16 ∨ k = 17)) → S2 g r' k = S g r' k
theorem CE.refl (S : Sg) : CE S S := fun _ _ _ _ => rfl
theorem CE.trans {S S2 S3 : Sg} (h : CE S S2) (h2 : CE S2 S3) : CE S S3 := fun g r' k q => (h2 g r' k q).trans (h g r' k q)
theorem CE.put {S : Sg} {k j v : Int} (hk : k = 16 ∨ k = 17) : CE S (zu S 3 0 k j v) := fun g r' k' q => zu_ne (by omega)
theorem CE.g0 {S S2 : Sg} (h : CE S S2) : S2 0 = S 0 := by funext r' k; exact h 0 r' k (by omega)
theorem CE.rw {S T S2 : Sg} {r w : Int} (h : Rw S T r w) (hc : CE S S2) : Rw S2 T r w := h.scr (fun g r' k q => hc g r' k (by omega)) (fun _ _ _ _ _ => rfl)
theorem e_needC {S S' : Sg} {T : Sg} {r w p : Int} (h : Rw S T r w) (hc : CE S S') (hp : 0 ≤ p ∧ p < S 0 r 6 0) : zf_P_need r p (S' 0 r 0 0) S' = some (nds S r p, S') := by
  have hpp := h.1.2.2.1
  have hn := hpp.2.1
  have hwr := h.mc.2.2.2.2.2.2.1
  obtain ⟨c1, c2, c3, c4, c5, c6, c7, c8, c9, c10, -⟩ := hpp.2.2 p hp.1 hp.2
  have e0 := hc.g0
  rw [pf_P_need (by omega) (by rw [e0]; omega) (by rw [e0]; exact hwr)]
  unfold nds knd
  rw [e0]
theorem e_here {S T T' : Sg} {r w p : Int} (h : Rw S T r w) (he : EF w T T') (hp : 0 ≤ p ∧ p < S 0 r 6 0) : zf_W_here w p T' = some (if S 0 r 11 p = 0 then 1 else 0, T') := by
  have hpp := h.1.2.2.1
  have hn := hpp.2.1
  obtain ⟨c1, c2, c3, c4, c5, -⟩ := hpp.2.2 p hp.1 hp.2
  rw [pf_W_here (by omega), he 5 w 5 p (by omega), c5]
theorem e_needM {S T T' : Sg} {r w p : Int} (h : Rw S T r w) (he : EF w T T') (hp : 0 ≤ p ∧ p < S 0 r 6 0) : zf_W_needOf w p T' = some (nds S r p, T') := by
  have hpp := h.1.2.2.1
  have hn := hpp.2.1
  have hwk := h.mc.1
  have hwr := h.mc.2.2.2.2.2.2.1
  obtain ⟨c1, c2, c3, c4, c5, c6, c7, c8, c9, c10, -⟩ := hpp.2.2 p hp.1 hp.2
  have t1 : T' 5 w 1 p = S 0 r 7 p := (he 5 w 1 p (by omega)).trans c1
  have t0 : T' 5 w 0 0 = S 0 r 0 0 := (he 5 w 0 0 (by omega)).trans hwk
  rw [pf_W_needOf (by omega) (by rw [t1]; omega) (by rw [t0]; exact hwr)]
  unfold kndM nds knd
  rw [t1, t0, (he 5 w 5 p (by omega)).trans c5, (he 5 w 6 p (by omega)).trans c6, (he 5 w 4 p (by omega)).trans c4, (he 5 w 8 p (by omega)).trans c8]
  have hpv : decide (0 ≤ pv (S 0 r 14 p)) = decide (0 ≤ S 0 r 14 p) := by
    unfold pv
    by_cases q : S 0 r 14 p < 0
    · rw [if_pos q, decide_eq_false (by omega), decide_eq_false (by omega)]
    · rw [if_neg q]
  rw [hpv]
/-- the class sums up what all need -/
theorem c_needs {S T : Sg} {r w : Int} (h : Rw S T r w) : ∀ (c n : Nat) (i x : Int), 0 ≤ i → i + c = S 0 r 6 0 → c < n → (0 ≤ x ∧ x ≤ 5 * i) → zf_P_needOfAll_4 r n (S 0 r 0 0) x i S = some (x + sF (nds S r) i c, S)
  | 0, n + 1, i, x, hi, hc, _, _ => by
    rw [zf_P_needOfAll_4, if_pos (by omega)]
    simp [sF]
  | c + 1, n + 1, i, x, hi, hc, h1, hx => by
    have hn := h.1.2.2.1.2.1
    have b := nds_in S r i
    rw [zf_P_needOfAll_4, if_neg (by omega), e_needC h (CE.refl S) ⟨hi, by omega⟩, zbd_s, zlt_v, zlt_v, zw_in (x := x + nds S r i) (by omega) (by omega), zw_in (x := i + 1) (by omega) (by omega), c_needs h c n (i + 1) (x + nds S r i) (by omega) (by omega) (by omega) (by omega)]
    show _ = some (x + (nds S r i + sF (nds S r) (i + 1) c), S)
    rw [show x + nds S r i + sF (nds S r) (i + 1) c = x + (nds S r i + sF (nds S r) (i + 1) c) by omega]
/-- the reference sums up, and takes everyone for fed -/
theorem m_needs {S T : Sg} {r w : Int} (h : Rw S T r w) : ∀ (c n : Nat) (i x : Int) (U : Sg), 0 ≤ i → i + c = S 0 r 6 0 → c < n → (0 ≤ x ∧ x ≤ 5 * i) → EF w T U → (∀ j, 0 ≤ j → j < i → U 5 w 9 j = 0 ∧ U 5 w 39 j = 0) → ∃ U2, zf_W_eat_4 w n x i U = (if x + sF (nds S r) i c ≤ S 0 r 32 0 then zf_W_eat_72 w (x + sF (nds S r) i c) 0 0 U2 else zf_W_eat_72 w (x + sF (nds S r) i c) 0 1 U2) ∧ EF w T U2 ∧ (∀ j, 0 ≤ j → j < S 0 r 6 0 → U2 5 w 9 j = 0 ∧ U2 5 w 39 j = 0)
  | 0, n + 1, i, x, U, hi, hc, _, _, he, hz => by
    have hn1 := h.1.2.2.1.1
    have hs := (h.ms.1 0 (by decide) (by decide)).1
    rw [zf_W_eat_4, if_pos (show U 5 w 0 1 ≤ i by rw [he 5 w 0 1 (by omega)]; omega), he 5 w 25 0 (by omega), hs, show x + sF (nds S r) i 0 = x from Int.add_zero x]
    exact ⟨U, rfl, he, fun j a b => hz j a (by omega)⟩
  | c + 1, n + 1, i, x, U, hi, hc, h1, hx, he, hz => by
    have hn1 := h.1.2.2.1.1
    have hn := h.1.2.2.1.2.1
    have hst := (h.mp i hi (by omega)).2.2.2.2.1
    have b := nds_in S r i
    have hx4 : 0 ≤ i ∧ i < 40 := by omega
    have go : ∀ y : Int, y = nds S r i → ∃ U2, zf_W_eat_30 w (zf_W_eat_4 w n) i x y U = (if x + (nds S r i + sF (nds S r) (i + 1) c) ≤ S 0 r 32 0 then zf_W_eat_72 w (x + (nds S r i + sF (nds S r) (i + 1) c)) 0 0 U2 else zf_W_eat_72 w (x + (nds S r i + sF (nds S r) (i + 1) c)) 0 1 U2) ∧ EF w T U2 ∧ (∀ j, 0 ≤ j → j < S 0 r 6 0 → U2 5 w 9 j = 0 ∧ U2 5 w 39 j = 0) := by
      intro y hy
      unfold zf_W_eat_30
      rw [hy, zw_in (x := x + nds S r i) (by omega) (by omega), zlt_v, zck_b hx4, zlt_v, zlt_v, zlt_v, zw_in (x := i + 1) (by omega) (by omega)]
      obtain ⟨U2, k1, k2, k3⟩ := m_needs h c n (i + 1) (x + nds S r i) (zu (zu U 5 w 9 i 0) 5 w 39 i 0) (by omega) (by omega) (by omega) (by omega) ((he.trans (EF.put (by omega))).trans (EF.put (by omega))) (fun j a b => by
        by_cases e : j = i
        · subst e
          exact ⟨by rw [zu_ne (by omega), zu_at], by rw [zu_at]⟩
        · have q := hz j a (by omega)
          exact ⟨by rw [zu_ne (by omega), zu_pl e]; exact q.1, by rw [zu_pl e, zu_ne (by omega)]; exact q.2⟩)
      refine ⟨U2, ?_, k2, k3⟩
      rw [k1, show x + nds S r i + sF (nds S r) (i + 1) c = x + (nds S r i + sF (nds S r) (i + 1) c) by omega]
    rw [zf_W_eat_4, if_neg (show ¬ U 5 w 0 1 ≤ i by rw [he 5 w 0 1 (by omega)]; omega), e_here h he ⟨hi, by omega⟩, zbd_s]
    show ∃ U2, _ = (if x + (nds S r i + sF (nds S r) (i + 1) c) ≤ S 0 r 32 0 then zf_W_eat_72 w (x + (nds S r i + sF (nds S r) (i + 1) c)) 0 0 U2 else zf_W_eat_72 w (x + (nds S r i + sF (nds S r) (i + 1) c)) 0 1 U2) ∧ _
    by_cases s0 : S 0 r 11 i = 0
    · rw [if_pos s0, if_neg n10, e_needM h he ⟨hi, by omega⟩, zbd_s]
      exact go _ rfl
    · rw [if_neg s0, if_pos z00]
      exact go 0 (nds_out s0 hst).symm
