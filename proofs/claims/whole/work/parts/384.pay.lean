/-! ===== a month's pay ===== -/
theorem in_like2 {S T : Sg} {r w h : Int} (hp : Rpp2 S T r w) : sF (inM T w h) 0 (T 5 w 0 1).toNat = sF (inC S r h) 0 (S 0 r 6 0).toNat := by
  rw [hp.1]
  refine sF_eq _ _ (fun j a b => ?_)
  have q := hp.2.2 j a (by omega)
  unfold Rp12 at q
  simp [inM, inC, q]
theorem Rw.purse {S T : Sg} {r w v : Int} (h : Rw S T r w) (hv : 0 ≤ v ∧ v ≤ 1000000) : Rw (zu S 0 r 0 1 v) (zu T 5 w 0 38 v) r w := by
  obtain ⟨d1, d2, d3, d4, d5, d6, d7, d8, d9, d10⟩ := h.mc
  refine h.step (AG.put (by unfold AK; omega) (by omega)) (BG.put (by unfold BK; omega)) ⟨?_, ?_, ?_, ?_, ?_, ?_, ?_, ?_, ?_, ?_⟩ (h.mh.to (zu_ne (by omega)) (zu_ne (by omega)) (zu_ne (by omega)) (zu_ne (by omega)) (zu_ne (by omega)) (zu_ne (by omega))) (h.mp.to (zu_ne (by omega)) (zu_ne (by omega)) (zu_ne (by omega)) (zu_ne (by omega)) (zu_ne (by omega)) (zu_ne (by omega)) (zu_ne (by omega)) (zu_ne (by omega))) (h.ms.to (zu_ne (by omega)) (zu_ne (by omega)) (zu_ne (by omega)) (zu_ne (by omega)))
  · rw [zu_pl (by decide), zu_pl (by decide)]; exact d1
  · rw [zu_at, zu_at]
  · rw [zu_pl (by decide), zu_pl (by decide)]; exact d3
  · rw [zu_pl (by decide), zu_pl (by decide)]; exact d4
  · rw [zu_pl (by decide), zu_pl (by decide)]; exact d5
  · rw [zu_pl (by decide), zu_pl (by decide)]; exact d6
  · rw [zu_pl (by decide)]; exact d7
  · rw [zu_at]; exact hv
  · rw [zu_pl (by decide)]; exact d9
  · rw [zu_pl (by decide), zu_pl (by decide)]; exact d10
theorem Rw.fund {S T : Sg} {r w v : Int} (h : Rw S T r w) : Rw (zu S 0 r 0 2 v) (zu T 5 w 0 39 v) r w := by
  obtain ⟨d1, d2, d3, d4, d5, d6, d7, d8, d9, d10⟩ := h.mc
  refine h.step (AG.put (by unfold AK; omega) (by omega)) (BG.put (by unfold BK; omega)) ⟨?_, ?_, ?_, ?_, ?_, ?_, ?_, ?_, ?_, ?_⟩ (h.mh.to (zu_ne (by omega)) (zu_ne (by omega)) (zu_ne (by omega)) (zu_ne (by omega)) (zu_ne (by omega)) (zu_ne (by omega))) (h.mp.to (zu_ne (by omega)) (zu_ne (by omega)) (zu_ne (by omega)) (zu_ne (by omega)) (zu_ne (by omega)) (zu_ne (by omega)) (zu_ne (by omega)) (zu_ne (by omega))) (h.ms.to (zu_ne (by omega)) (zu_ne (by omega)) (zu_ne (by omega)) (zu_ne (by omega)))
  · rw [zu_pl (by decide), zu_pl (by decide)]; exact d1
  · rw [zu_pl (by decide), zu_pl (by decide)]; exact d2
  · rw [zu_at, zu_at]
  · rw [zu_pl (by decide), zu_pl (by decide)]; exact d4
  · rw [zu_pl (by decide), zu_pl (by decide)]; exact d5
  · rw [zu_pl (by decide), zu_pl (by decide)]; exact d6
  · rw [zu_pl (by decide)]; exact d7
  · rw [zu_pl (by decide)]; exact d8
  · rw [zu_pl (by decide)]; exact d9
  · rw [zu_pl (by decide), zu_pl (by decide)]; exact d10
theorem Rw.unpaid {S T : Sg} {r w v : Int} (h : Rw S T r w) : Rw (zu S 0 r 0 3 v) (zu T 5 w 0 40 v) r w := by
  obtain ⟨d1, d2, d3, d4, d5, d6, d7, d8, d9, d10⟩ := h.mc
  refine h.step (AG.put (by unfold AK; omega) (by omega)) (BG.put (by unfold BK; omega)) ⟨?_, ?_, ?_, ?_, ?_, ?_, ?_, ?_, ?_, ?_⟩ (h.mh.to (zu_ne (by omega)) (zu_ne (by omega)) (zu_ne (by omega)) (zu_ne (by omega)) (zu_ne (by omega)) (zu_ne (by omega))) (h.mp.to (zu_ne (by omega)) (zu_ne (by omega)) (zu_ne (by omega)) (zu_ne (by omega)) (zu_ne (by omega)) (zu_ne (by omega)) (zu_ne (by omega)) (zu_ne (by omega))) (h.ms.to (zu_ne (by omega)) (zu_ne (by omega)) (zu_ne (by omega)) (zu_ne (by omega)))
  · rw [zu_pl (by decide), zu_pl (by decide)]; exact d1
  · rw [zu_pl (by decide), zu_pl (by decide)]; exact d2
  · rw [zu_pl (by decide), zu_pl (by decide)]; exact d3
  · rw [zu_at, zu_at]
  · rw [zu_pl (by decide), zu_pl (by decide)]; exact d5
  · rw [zu_pl (by decide), zu_pl (by decide)]; exact d6
  · rw [zu_pl (by decide)]; exact d7
  · rw [zu_pl (by decide)]; exact d8
  · rw [zu_pl (by decide)]; exact d9
  · rw [zu_pl (by decide), zu_pl (by decide)]; exact d10
/-- what one row of the order of pay changes -/
def YF (r w : Int) (S T S2 T2 : Sg) : Prop := AG r S S2 ∧ BG w T T2 ∧ S2 3 = S 3
theorem YF.refl {r w : Int} (S T : Sg) : YF r w S T S T := ⟨AG.refl r S, BG.refl w T, rfl⟩
theorem YF.trans {r w : Int} {S T S2 T2 S3 T3 : Sg} (h : YF r w S T S2 T2) (h2 : YF r w S2 T2 S3 T3) : YF r w S T S3 T3 := ⟨h.1.trans h2.1, h.2.1.trans h2.2.1, h2.2.2.trans h.2.2⟩
theorem YF.put {r w k j v : Int} {S T : Sg} (hk : k = 1 ∨ k = 2 ∨ k = 3) (hj : 38 ≤ j ∧ j ≤ 41) : YF r w S T (zu S 0 r 0 k v) (zu T 5 w 0 j v) := ⟨AG.put (by unfold AK; omega) (by omega), BG.put (by unfold BK; omega), by funext r' k'; rw [zu_ne (by omega)]⟩
theorem w_pay {r w N t j : Int} (qm : Int → Sg → Option (Int × Sg)) (ht : t = 0 ∨ t = 1) (hj : 0 ≤ j ∧ j < 3) : ∀ (c n n2 : Nat) (i : Int) (S T : Sg), 0 ≤ i → i + c = N → N ≤ 40 → S 0 r 6 0 = N → c < n → c < n2 → T 5 w 31 j = t → Rw S T r w → ∃ S2 T2 : Sg, zf_A_payEach_2 r n t i S = some (0, S2) ∧ zf_W_pay_72 w qm n2 j i T = zf_W_pay_153 w qm j T2 ∧ Rw S2 T2 r w ∧ YF r w S T S2 T2
  | 0, n + 1, n2 + 1, i, S, T, hi, hc, h40, hN, _, _, h31, h => by
    have hn := h.1.2.2.1.1
    rw [zf_A_payEach_2, if_pos (show S 0 r 6 0 ≤ i by omega), zf_W_pay_72, if_pos (show T 5 w 0 1 ≤ i by omega)]
    exact ⟨S, T, rfl, rfl, h, YF.refl S T⟩
  | c + 1, n + 1, n2 + 1, i, S, T, hi, hc, h40, hN, h1, h2, h31, h => by
    have hn := h.1.2.2.1.1
    have hx : 0 ≤ i ∧ i < 40 := by omega
    obtain ⟨d1, d2, d3, d4, -, -, d7, d8, -⟩ := h.mc
    obtain ⟨c1, c2, c3, c4, c5, c6, c7, c8, c9, c10, c11, c12, c13, c14, c15, c16, c17, c18⟩ := h.1.2.2.1.2.2 i hi (by omega)
    have go : ∀ S' T' : Sg, Rw S' T' r w → YF r w S T S' T' → ∃ S2 T2 : Sg, zf_A_payEach_89 r (zf_A_payEach_2 r n) t i S' = some (0, S2) ∧ zf_W_pay_147 w qm (zf_W_pay_72 w qm n2) j i T' = zf_W_pay_153 w qm j T2 ∧ Rw S2 T2 r w ∧ YF r w S T S2 T2 := by
      intro S' T' h' a
      obtain ⟨S2, T2, k1, k2, k3, k4⟩ := w_pay qm ht hj c n n2 (i + 1) S' T' (by omega) (by omega) h40 (by rw [a.1.1 0 r 6 (by unfold AK; omega)]; exact hN) (by omega) (by omega) (by rw [a.2.1 5 w 31 j (by unfold BK; omega)]; exact h31) h'
      refine ⟨S2, T2, ?_, ?_, k3, a.trans k4⟩
      · unfold zf_A_payEach_89
        rw [zlt_v, zw_in (by omega) (by omega)]
        exact k1
      · unfold zf_W_pay_147
        rw [zlt_v, zw_in (by omega) (by omega)]
        exact k2
    have hpv : decide (0 ≤ T 5 w 8 i) = decide (0 ≤ S 0 r 14 i) := by
      rw [c8]
      unfold pv
      by_cases q : S 0 r 14 i < 0
      · rw [if_pos q, decide_eq_false (by omega), decide_eq_false (by omega)]
      · rw [if_neg q]
    -- a wage is paid
    have paid : ∀ (a u : Int), a ≠ 0 → 0 ≤ a → t = u → ∃ S2 T2 : Sg, zf_A_payEach_52 r (zf_A_payEach_2 r n) t i a t u S = some (0, S2) ∧ (zbd (zf_W_payOne w a T) fun _ S4 => zf_W_pay_147 w qm (zf_W_pay_72 w qm n2) j i S4) = zf_W_pay_153 w qm j T2 ∧ Rw S2 T2 r w ∧ YF r w S T S2 T2 := by
      intro a u ha ha0 hu
      unfold zf_A_payEach_52 zf_W_payOne
      rw [if_pos hu, if_neg ha, d2]
      by_cases q : S 0 r 0 1 < a
      · rw [if_pos q, if_pos q, zlt_v, zlt_v, zbd_s, d4]
        exact go _ _ h.unpaid (YF.put (by omega) (by omega))
      · rw [if_neg q, if_neg q, zlt_v, zlt_v, zbd_s, zw_in (x := S 0 r 0 1 - a) (by omega) (by omega)]
        exact go _ _ (h.purse (v := S 0 r 0 1 - a) (by omega)) (YF.put (by omega) (by omega))
    have skip : ∀ (a u : Int), t ≠ u → zf_A_payEach_52 r (zf_A_payEach_2 r n) t i a t u S = zf_A_payEach_89 r (zf_A_payEach_2 r n) t i S := by
      intro a u hu
      unfold zf_A_payEach_52
      rw [if_neg hu]
    have kM : kndM T w i = knd S r i (S 0 r 0 0) := by
      unfold kndM knd
      rw [c5, c6, c1, c4, d1]
    have kM2 : kindS (T 5 w 5 i) (T 5 w 6 i) (T 5 w 1 i) (T 5 w 4 i) (T 5 w 0 0) = knd S r i (S 0 r 0 0) := kM
    have pP : ∀ b : Int, zf_W_pay_103 w qm (zf_W_pay_72 w qm n2) j i b T = (if t = 0 then (if b = 0 then zf_W_pay_147 w qm (zf_W_pay_72 w qm n2) j i T else if pv (S 0 r 14 i) < 0 then zf_W_pay_147 w qm (zf_W_pay_72 w qm n2) j i T else (zbd (zf_W_payOne w (wageS (knd S r i (S 0 r 0 0)) (decide (0 ≤ S 0 r 14 i))) T) fun _ S4 => zf_W_pay_147 w qm (zf_W_pay_72 w qm n2) j i S4)) else if knd S r i (S 0 r 0 0) = 4 then (zbd (zf_W_payOne w (wageS (knd S r i (S 0 r 0 0)) (decide (0 ≤ S 0 r 14 i))) T) fun _ S4 => zf_W_pay_147 w qm (zf_W_pay_72 w qm n2) j i S4) else zf_W_pay_147 w qm (zf_W_pay_72 w qm n2) j i T) := by
      intro b
      unfold zf_W_pay_103 zf_W_pay_138
      rw [zck_b hj, h31, zck_b hx, c8, pf_W_wageOf hx (by omega) (by omega), zbd_s, hpv, kM, pf_W_kind hx (by omega) (by omega), zbd_s, kM2, pf_W_wageOf hx (by omega) (by omega), zbd_s, hpv, kM]
    have eC : zf_A_payEach_2 r (n + 1) t i S = (if wageS (knd S r i (S 0 r 0 0)) (decide (0 ≤ S 0 r 14 i)) = 0 then zf_A_payEach_89 r (zf_A_payEach_2 r n) t i S else if knd S r i (S 0 r 0 0) = 4 then zf_A_payEach_52 r (zf_A_payEach_2 r n) t i (wageS (knd S r i (S 0 r 0 0)) (decide (0 ≤ S 0 r 14 i))) t 1 S else zf_A_payEach_52 r (zf_A_payEach_2 r n) t i (wageS (knd S r i (S 0 r 0 0)) (decide (0 ≤ S 0 r 14 i))) t 0 S) := by
      rw [zf_A_payEach_2, if_neg (show ¬ S 0 r 6 0 ≤ i by omega), pf_P_wage hx (by omega) d7, zbd_s, pf_P_kind hx (by omega) d7, zbd_s]
      rfl
    have eM : zf_W_pay_72 w qm (n2 + 1) j i T = (if knd S r i (S 0 r 0 0) = 2 then zf_W_pay_103 w qm (zf_W_pay_72 w qm n2) j i 1 T else if knd S r i (S 0 r 0 0) = 5 then zf_W_pay_103 w qm (zf_W_pay_72 w qm n2) j i 1 T else zf_W_pay_103 w qm (zf_W_pay_72 w qm n2) j i 0 T) := by
      rw [zf_W_pay_72, if_neg (show ¬ T 5 w 0 1 ≤ i by omega), pf_W_kind hx (by omega) (by omega), zbd_s, pf_W_kind hx (by omega) (by omega), zbd_s, kM2]
      rfl
    rw [eC, eM, pP, pP]
    generalize knd S r i (S 0 r 0 0) = kd
    have neg : ¬ t = 0 ∨ t = 0 := by omega
    have pvn : 0 ≤ S 0 r 14 i → ¬ pv (S 0 r 14 i) < 0 := fun q => by unfold pv; rw [if_neg (by omega)]; omega
    have pvp : ¬ 0 ≤ S 0 r 14 i → pv (S 0 r 14 i) < 0 := fun q => by unfold pv; rw [if_pos (by omega)]; decide
    by_cases k4 : kd = 4
    · have ew : wageS kd (decide (0 ≤ S 0 r 14 i)) = 2 := by subst k4; rfl
      rw [ew, if_neg (show ¬ (2 : Int) = 0 by decide), if_pos k4, if_neg (show ¬ kd = 2 by omega), if_neg (show ¬ kd = 5 by omega)]
      rcases ht with e | e
      · rw [skip _ _ (by omega), if_pos e, if_pos z00]
        exact go S T h (YF.refl S T)
      · rw [if_neg (show ¬ t = 0 by omega), if_pos k4]
        exact paid 2 1 (by decide) (by decide) e
    · have pick : ∀ a : Int, wageS kd (decide (0 ≤ S 0 r 14 i)) = (if 0 ≤ S 0 r 14 i then a else 0) → 0 < a → ∃ S2 T2 : Sg, (if wageS kd (decide (0 ≤ S 0 r 14 i)) = 0 then zf_A_payEach_89 r (zf_A_payEach_2 r n) t i S else if kd = 4 then zf_A_payEach_52 r (zf_A_payEach_2 r n) t i (wageS kd (decide (0 ≤ S 0 r 14 i))) t 1 S else zf_A_payEach_52 r (zf_A_payEach_2 r n) t i (wageS kd (decide (0 ≤ S 0 r 14 i))) t 0 S) = some (0, S2) ∧ (if t = 0 then (if (1 : Int) = 0 then zf_W_pay_147 w qm (zf_W_pay_72 w qm n2) j i T else if pv (S 0 r 14 i) < 0 then zf_W_pay_147 w qm (zf_W_pay_72 w qm n2) j i T else (zbd (zf_W_payOne w (wageS kd (decide (0 ≤ S 0 r 14 i))) T) fun _ S4 => zf_W_pay_147 w qm (zf_W_pay_72 w qm n2) j i S4)) else if kd = 4 then (zbd (zf_W_payOne w (wageS kd (decide (0 ≤ S 0 r 14 i))) T) fun _ S4 => zf_W_pay_147 w qm (zf_W_pay_72 w qm n2) j i S4) else zf_W_pay_147 w qm (zf_W_pay_72 w qm n2) j i T) = zf_W_pay_153 w qm j T2 ∧ Rw S2 T2 r w ∧ YF r w S T S2 T2 := by
        intro a ea ha
        by_cases hp : 0 ≤ S 0 r 14 i
        · rw [if_pos hp] at ea
          rw [ea, if_neg (show ¬ a = 0 by omega), if_neg k4, if_neg n10, if_neg (pvn hp), if_neg k4]
          rcases ht with e | e
          · rw [if_pos e]
            exact paid a 0 (by omega) (by omega) e
          · rw [if_neg (show ¬ t = 0 by omega), skip _ _ (by omega)]
            exact go S T h (YF.refl S T)
        · rw [if_neg hp] at ea
          rw [ea, if_pos z00, if_neg n10, if_pos (pvp hp), if_neg k4]
          rcases ht with e | e
          · rw [if_pos e]
            exact go S T h (YF.refl S T)
          · rw [if_neg (show ¬ t = 0 by omega)]
            exact go S T h (YF.refl S T)
      by_cases k2 : kd = 2
      · rw [if_pos k2]
        refine pick 3 ?_ (by decide)
        subst k2
        by_cases hp : 0 ≤ S 0 r 14 i
        · rw [if_pos hp, decide_eq_true hp]; rfl
        · rw [if_neg hp, decide_eq_false hp]; rfl
      · by_cases k5 : kd = 5
        · rw [if_neg k2, if_pos k5]
          refine pick 6 ?_ (by decide)
          subst k5
          by_cases hp : 0 ≤ S 0 r 14 i
          · rw [if_pos hp, decide_eq_true hp]; rfl
          · rw [if_neg hp, decide_eq_false hp]; rfl
        · have ew : wageS kd (decide (0 ≤ S 0 r 14 i)) = 0 := by
            unfold wageS
            rw [if_neg k4, if_neg k2, if_neg k5]
          rw [if_pos ew, if_neg k2, if_neg k5, if_neg k4, if_pos z00]
          rcases ht with e | e
          · rw [if_pos e]
            exact go S T h (YF.refl S T)
          · rw [if_neg (show ¬ t = 0 by omega)]
            exact go S T h (YF.refl S T)
