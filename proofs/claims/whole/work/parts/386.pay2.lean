/-! ===== a month's pay, in the order that is set ===== -/
theorem w_pay1 {r w t x y j : Int} (n n2 : Nat) {S T : Sg} (ht : 0 ≤ t ∧ t ≤ 2) (hj : 0 ≤ j ∧ j < 3) (h31 : T 5 w 31 j = t) (hx : zrem x 3 = t) (hy : zdiv x 3 = y) (h : Rw S T r w) : ∃ S2 T2 : Sg, zf_A_payMonth_31 r (n + 1) x j S = zf_A_payMonth_31 r n y (j + 1) S2 ∧ zf_W_pay_24 w (n2 + 1) j T = zf_W_pay_24 w n2 (j + 1) T2 ∧ Rw S2 T2 r w ∧ YF r w S T S2 T2 := by
  have hn := h.1.2.2.1.2.1
  obtain ⟨d1, d2, d3, d4, -, -, d7, d8, -⟩ := h.mc
  have ej : zw (j + 1) = j + 1 := zw_in (by omega) (by omega)
  have each : t = 0 ∨ t = 1 → ∃ S2 T2 : Sg, zf_A_payMonth_64 r (zf_A_payMonth_31 r n) y j t S = zf_A_payMonth_31 r n y (j + 1) S2 ∧ zf_W_pay_72 w (zf_W_pay_24 w n2) 4096 j 0 T = zf_W_pay_24 w n2 (j + 1) T2 ∧ Rw S2 T2 r w ∧ YF r w S T S2 T2 := by
    intro e
    obtain ⟨S2, T2, k1, k2, k3, k4⟩ := w_pay (r := r) (w := w) (N := S 0 r 6 0) (zf_W_pay_24 w n2) e hj (S 0 r 6 0).toNat 4096 4096 0 S T (by decide) (by omega) hn.2 rfl (by omega) (by omega) h31 h
    refine ⟨S2, T2, ?_, ?_, k3, k4⟩
    · unfold zf_A_payMonth_64 zf_A_payEach zf_A_payMonth_98
      rw [k1, zbd_s, zlt_v, ej]
    · rw [k2]
      unfold zf_W_pay_153
      rw [zlt_v, ej]
  rw [zf_A_payMonth_31, if_neg (show ¬ (3 : Int) ≤ j by omega), zlt_v, zlt_v, hx, hy, zf_W_pay_24, if_neg (show ¬ (3 : Int) ≤ j by omega), zck_b hj, h31]
  by_cases t0 : t = 0
  · rw [if_pos t0, if_neg (show ¬ t = 2 by omega)]
    unfold zf_A_payMonth_53
    rw [if_neg (show ¬ t = 1 by omega)]
    have := each (Or.inl t0)
    rw [t0] at this
    exact this
  · rw [if_neg t0]
    by_cases t1 : t = 1
    · rw [if_pos t1, if_neg (show ¬ t = 2 by omega)]
      unfold zf_A_payMonth_53
      rw [if_pos t1]
      have := each (Or.inr t1)
      rw [t1] at this
      exact this
    · rw [if_neg t1, if_pos (show t = 2 by omega), d2]
      unfold zf_A_payMonth_98 zf_W_pay_153
      by_cases q : S 0 r 0 1 < 5
      · rw [if_pos q, if_pos q, zlt_v, zlt_v, ej]
        exact ⟨S, T, rfl, rfl, h, YF.refl S T⟩
      · rw [if_neg q, if_neg q]
        simp only [zlt_v]
        rw [ej, zw_in (x := S 0 r 0 1 - 5) (by omega) (by omega), show zu S 0 r 0 1 (S 0 r 0 1 - 5) 0 r 0 2 = S 0 r 0 2 from zu_pl (by decide), show zu T 5 w 0 38 (S 0 r 0 1 - 5) 5 w 0 39 = S 0 r 0 2 by rw [zu_pl (by decide)]; exact d3]
        exact ⟨_, _, rfl, rfl, (h.purse (v := S 0 r 0 1 - 5) (by omega)).fund, (YF.put (by omega) (by omega)).trans (YF.put (by omega) (by omega))⟩
theorem dig3 {a b c : Int} (ha : 0 ≤ a ∧ a ≤ 2) (hb : 0 ≤ b ∧ b ≤ 2) (hc : 0 ≤ c ∧ c ≤ 2) : zrem (a + 3 * b + 9 * c) 3 = a ∧ zdiv (a + 3 * b + 9 * c) 3 = b + 3 * c ∧ zrem (b + 3 * c) 3 = b ∧ zdiv (b + 3 * c) 3 = c ∧ zrem c 3 = c ∧ zdiv c 3 = 0 := by
  have ea : a = 0 ∨ a = 1 ∨ a = 2 := by omega
  have eb : b = 0 ∨ b = 1 ∨ b = 2 := by omega
  have ec : c = 0 ∨ c = 1 ∨ c = 2 := by omega
  rcases ea with e | e | e <;> rcases eb with e2 | e2 | e2 <;> rcases ec with e3 | e3 | e3 <;> subst e e2 e3 <;> decide
theorem tw_pay {S T : Sg} {r w : Int} (h : Rw S T r w) : ∃ S2 T2 : Sg, zf_A_payMonth r S = some (0, S2) ∧ zf_W_pay w T = some (0, T2) ∧ Rw S2 T2 r w ∧ YF r w S T S2 T2 := by
  have hpp := h.1.2.2.1
  have hn := hpp.2.1
  have hn1 := hpp.1
  obtain ⟨d1, d2, d3, d4, -, -, d7, d8, -⟩ := h.mc
  obtain ⟨-, -, -, -, -, o5, -, -, -, -, -, o31, -⟩ := h.1.1
  have bH := sF_le (f := inC S r 1) (m := 1) (S 0 r 6 0).toNat 0 (fun i _ _ => by unfold inC; split <;> decide)
  unfold zf_A_payMonth zf_W_pay
  rw [pf_P_in hn, zbd_s, pf_W_inState (by omega), zbd_s, in_like2 hpp, d2]
  generalize sF (inC S r 1) 0 (S 0 r 6 0).toNat = m at bH
  rw [zlt_v, zlt_v, zlt_v, zw_in (x := 5 * m) (by omega) (by omega), zw_in (x := S 0 r 0 1 + 5 * m) (by omega) (by omega)]
  have hA := h.purse (v := min 1000000 (S 0 r 0 1 + 5 * m)) (by omega)
  have yA : YF r w S T (zu S 0 r 0 1 (min 1000000 (S 0 r 0 1 + 5 * m))) (zu T 5 w 0 38 (min 1000000 (S 0 r 0 1 + 5 * m))) := YF.put (by omega) (by omega)
  rw [show zu S 0 r 0 1 (min 1000000 (S 0 r 0 1 + 5 * m)) 0 r 0 5 = S 0 r 0 5 from zu_pl (by decide), o5]
  obtain ⟨q1, q2, q3, q4, q5, q6⟩ := dig3 (o31 0 (by decide) (by decide)) (o31 1 (by decide) (by decide)) (o31 2 (by decide) (by decide))
  generalize zu S 0 r 0 1 (min 1000000 (S 0 r 0 1 + 5 * m)) = A at hA yA ⊢
  generalize zu T 5 w 0 38 (min 1000000 (S 0 r 0 1 + 5 * m)) = A' at hA yA ⊢
  obtain ⟨B, B', b1, b2', b3, b4⟩ := w_pay1 (j := 0) 4095 4095 (o31 0 (by decide) (by decide)) (by decide) (yA.2.1 5 w 31 0 (by unfold BK; omega)) q1 q2 hA
  have yB := yA.trans b4
  obtain ⟨C, C', c1, c2, c3, c4⟩ := w_pay1 (j := 1) 4094 4094 (o31 1 (by decide) (by decide)) (by decide) (yB.2.1 5 w 31 1 (by unfold BK; omega)) q3 q4 b3
  have yC := yB.trans c4
  obtain ⟨D, D', e1, e2, e3, e4⟩ := w_pay1 (j := 2) 4093 4093 (o31 2 (by decide) (by decide)) (by decide) (yC.2.1 5 w 31 2 (by unfold BK; omega)) q5 q6 c3
  refine ⟨D, D', ?_, ?_, e3, yC.trans e4⟩
  · rw [show zf_A_payMonth_31 r 4096 = zf_A_payMonth_31 r (4095 + 1) from rfl, b1, show (0 : Int) + 1 = 1 from rfl, show zf_A_payMonth_31 r 4095 = zf_A_payMonth_31 r (4094 + 1) from rfl, c1, show (1 : Int) + 1 = 2 from rfl, show zf_A_payMonth_31 r 4094 = zf_A_payMonth_31 r (4093 + 1) from rfl, e1, show (2 : Int) + 1 = 3 from rfl, show zf_A_payMonth_31 r 4093 = zf_A_payMonth_31 r (4092 + 1) from rfl, zf_A_payMonth_31, if_pos (by decide)]
  · rw [show zf_W_pay_24 w 4096 = zf_W_pay_24 w (4095 + 1) from rfl, b2', show (0 : Int) + 1 = 1 from rfl, show zf_W_pay_24 w 4095 = zf_W_pay_24 w (4094 + 1) from rfl, c2, show (1 : Int) + 1 = 2 from rfl, show zf_W_pay_24 w 4094 = zf_W_pay_24 w (4093 + 1) from rfl, e2, show (2 : Int) + 1 = 3 from rfl, show zf_W_pay_24 w 4093 = zf_W_pay_24 w (4092 + 1) from rfl, zf_W_pay_24, if_pos (by decide)]
