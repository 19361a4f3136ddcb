/-! ===== a week: not enough for all ===== -/
theorem tw_eatB {S T : Sg} {r w : Int} (h : Rw S T r w) (he : S 0 r 32 0 < sF (nds S r) 0 (S 0 r 6 0).toNat) : ∃ S2 T2 : Sg, zf_A_feed r S = some (1, S2) ∧ zf_W_eat w T = some (0, T2) ∧ Rw S2 T2 r w ∧ AG r S S2 ∧ BG w T T2 ∧ S2 3 0 15 = S 3 0 15 ∧ S2 3 0 18 = S 3 0 18 ∧ S2 0 r 11 = S 0 r 11 ∧ T2 5 w 34 0 = 1 := by
  have hn := h.1.2.2.1.2.1
  have hs := h.ms.1 0 (by decide) (by decide)
  obtain ⟨N, hN⟩ : ∃ N : Nat, S 0 r 6 0 = (N : Int) := ⟨(S 0 r 6 0).toNat, by omega⟩
  have eN : (S 0 r 6 0).toNat = N := by omega
  rw [eN] at he
  obtain ⟨U, k1, k2, k3⟩ := m_needs h N 4096 0 0 T (by decide) (by omega) (by omega) (by omega) (EF.refl w T) (fun j a b => absurd b (by omega))
  have k0 := c_needs h N 4096 0 0 (by decide) (by omega) (by omega) (by omega)
  rw [Int.zero_add] at k0 k1
  rw [if_neg (by omega)] at k1
  have u1 : EF w T (zu U 5 w 34 0 1) := k2.trans (EF.put (by omega))
  obtain ⟨A1, B1, x1, kk, a1, a2, a3, a4, -, a6, a6b, a6c, a7, a8, a9, a10, a11⟩ := w_first h N 4096 4096 0 (S 0 r 32 0) 0 S (zu U 5 w 34 0 1) (by decide) (by omega) (by omega) (by omega) ⟨by decide, by decide⟩ hs.2 (CE.refl S) u1
  have b25 : B1 5 w 25 0 = S 0 r 32 0 := (a4 5 w 25 0 (by omega)).trans hs.1
  rw [b25] at a2
  obtain ⟨B2, c1, c2, -, c4, c5⟩ := m_served (k := kk) (f := A1 3 0 16) h N 4096 0 (S 0 r 32 0) B1 (by decide) (by omega) (by omega) hs.2 a4 (fun j p q => ⟨(a7 j p q).1, by rw [a6, zu_ne (by omega)]; exact (k3 j p q).2⟩)
  rw [← a9] at c1
  have gq : ∀ j, 0 ≤ j → j < S 0 r 6 0 → A1 3 0 17 j = B2 5 w 39 j := fun j p q => Gtn.uniq a8 c5 j p (by omega)
  have rg : ∀ j, 0 ≤ j → j < S 0 r 6 0 → _ := fun j p q => Gtn.rng (fun i => nds_in S r i) hs.2.1 a8 j p (by omega)
  rw [← a9] at rg
  have b40 : ∀ j, 0 ≤ j → j < S 0 r 6 0 → A1 3 0 16 j = B2 5 w 40 j := fun j p q => by rw [c4 40 (by decide)]; exact (a7 j p q).1.symm
  have bo := sF_le (f := oth S r (A1 3 0 16)) (m := 1) N 0 (fun j _ _ => oth_in S r _ j)
  rw [Int.zero_add] at a11
  obtain ⟨v, hv, hvx, cv, mv⟩ : ∃ v : Int, (0 ≤ v ∧ v ≤ 9999) ∧ v * kk ≤ x1 ∧ Shr r x1 kk A1 = zf_A_shareOut_166 r 4096 x1 v 0 A1 ∧ MShr w x1 kk B2 = zf_W_eat_243 w 4096 x1 v 0 B2 := by
    by_cases q : kk = 0
    · refine ⟨0, by decide, by rw [Int.zero_mul]; exact a10.1, ?_, ?_⟩
      · unfold Shr zf_A_shareOut_161
        rw [if_pos q]
      · unfold MShr zf_W_eat_238
        rw [if_pos q]
    · have e : zdiv x1 kk = x1 / kk := by rw [zdiv_in (by unfold zn; omega) (by omega), Int.tdiv_eq_ediv_of_nonneg a10.1]
      refine ⟨x1 / kk, ⟨Int.ediv_nonneg a10.1 (by omega), ?_⟩, Int.ediv_mul_le x1 q, ?_, ?_⟩
      · have := Int.ediv_le_self kk a10.1
        omega
      · unfold Shr zf_A_shareOut_161
        rw [if_neg q, zck_b q, e]
      · unfold MShr zf_W_eat_238
        rw [if_neg q, zck_b q, e]
  rw [a11] at hvx
  obtain ⟨A3, B3, x3, d1, d2, d3, d4, d5, d6, d7, d8, d9, d10⟩ := w_share h hv N 4096 4096 0 x1 A1 B2 (by decide) (by omega) (by omega) (by omega) a3 c2 (by omega) hvx (fun j p q => ⟨b40 j p q, (a7 j p q).2⟩) (fun j p q => ⟨gq j p q, (rg j p q).1⟩) (fun j p q z => (rg j p q).2.1 (by omega))
  have a16 : A3 3 0 16 = A1 3 0 16 := d6 3 0 16 (by omega)
  have e40 : B3 5 w 40 = B2 5 w 40 := d7 5 w 40 (by omega)
  obtain ⟨A4, B4, x4, g1, g2, g3, g4, g5, g6, g7, -⟩ := w_rest h N 4096 4096 0 x3 A3 B3 (by decide) (by omega) (by omega) (by omega) d4 d5 (by omega) (fun j p q => by
    have y := d8 j p q
    rw [a16, e40]
    refine ⟨b40 j p q, (a7 j p q).2.1, y.1, by omega, fun z => d10 j p q z ((rg j p q).2.1 ?_)⟩
    rw [(a7 j p q).2.2 z]
    decide) (fun j p q => ⟨fun z => by
    rw [a16] at z
    rw [d9 j z]
    rcases (rg j p q).2.2 z with y | y
    · exact Or.inr y
    · left; omega, (d8 j p q).2.2⟩)
  have h1 := h.stock (i := 0) (v := x4) (by omega)
  have n6 : zu S 0 r 32 0 x4 0 r 6 = S 0 r 6 := zu_ne (by omega)
  have n11 : zu S 0 r 32 0 x4 0 r 11 = S 0 r 11 := zu_ne (by omega)
  obtain ⟨A5, B5, m1, m2, m3, m4, m5, m6⟩ := w_hungry h1 N 4096 4096 0 (zu A4 0 r 32 0 x4) (zu B4 5 w 25 0 x4) (by decide) (by rw [n6]; omega) (by omega) (by omega) (fun g r' k q q2 => by
    funext j
    simp only [zu]
    rw [g4 g r' k q]) (fun g r' k j q => by
    simp only [zu]
    rw [g5 g r' k j q]) (fun j p q => by
    rw [n6] at q
    rw [n11, zu_ne (by omega), zu_ne (by omega)]
    exact g7 j p q) (fun j p q => absurd q (by omega))
  have hm := Rw.meal (S2 := A5) (T2 := B5) (x := x4) h (by omega) m3 m4 (fun j p q => m5 j p (by rw [n6]; exact q))
  refine ⟨A5, B5, ?_, ?_, hm.1, hm.2.1, hm.2.2, ?_, ?_, ?_, ?_⟩
  · unfold zf_A_feed zf_P_needOfAll zf_A_shareOut
    rw [k0, zbd_s, if_pos he, zlt_v, a1, cv, d1, g1]
    unfold zf_A_shareOut_279
    rw [zlt_v, zbd_s, m1]
  · unfold zf_W_eat
    rw [k1]
    unfold zf_W_eat_72
    rw [zck_b (by decide), zlt_v, zu_at, if_neg n10, a2, c1, mv, d2, g2, m2]
  · rw [m3 3 0 15 (by omega) (by omega), zu_ne (by omega)]
  · rw [m3 3 0 18 (by omega) (by omega), zu_ne (by omega)]
  · rw [m3 0 r 11 (by omega) (by omega), zu_ne (by omega)]
  · rw [m6, zu_ne (by omega), g6 5 w 34 (by omega), d7 5 w 34 (by omega), c4 34 (by decide), a6c, zu_at]
