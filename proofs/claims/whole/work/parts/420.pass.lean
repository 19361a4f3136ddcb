/-! ===== a week, whole ===== -/
theorem Rw.to8 {S T T2 : Sg} {r w : Int} (h : Rw S T r w) (e5 : T2 5 = T 5) (e6 : T2 6 = T 6) (e7 : T2 7 = T 7) : Rw S T2 r w := by
  obtain ⟨⟨h1, h2, h3, h4, h5, h6⟩, h7, h8⟩ := h
  refine ⟨⟨?_, ?_, ?_, ?_, ?_, ?_⟩, ?_, ?_⟩
  · unfold Rsc2
    rw [e5]
    exact h1
  · intro i a b
    have c := h2 i a b
    unfold Rh12 at c ⊢
    rw [e5]
    exact c
  · refine ⟨by rw [e5]; exact h3.1, h3.2.1, fun i a b => ?_⟩
    have c := h3.2.2 i a b
    unfold Rp12 at c ⊢
    rw [e5]
    exact c
  · refine ⟨by rw [e5]; exact h4.1, h4.2.1, fun i a b => ?_⟩
    have c := h4.2.2 i a b
    unfold Rq12 at c ⊢
    rw [e5]
    exact c
  · refine ⟨fun g a b => ?_, by rw [e5]; exact h5.2.1, h5.2.2.1, fun i a b => ?_⟩
    · have c := h5.1 g a b
      unfold Rg12 at c ⊢
      rw [e5]
      exact c
    · have c := h5.2.2.2 i a b
      unfold Ro12 at c ⊢
      rw [e5]
      exact c
  · intro k a b
    have c := h6 k a b
    rw [e5, e7]
    exact c
  · exact h7.to (fun _ _ _ => rfl) (fun k a b => by rw [e5]) (by rw [e5]) e6
  · intro l a b
    obtain ⟨L, e, c1, c2, c3, c4, c5, c6, c7⟩ := h8 l a b
    exact ⟨L, e, c1, by rw [e5]; exact c2, c3, by rw [e6]; exact c4, c5, c6, c7⟩
theorem Rw.next {S T : Sg} {r w : Int} (h : Rw S T r w) (hlt : S 0 r 0 0 < 400) : Rw (zu S 0 r 0 0 (S 0 r 0 0 + 1)) (zu T 5 w 0 0 (S 0 r 0 0 + 1)) r w := by
  obtain ⟨d1, d2, d3, d4, d5, d6, d7, d8, d9, d10⟩ := h.mc
  refine h.week (fun g r' k q => zu_ne (fun e => q (by unfold AK; omega))) (zu_pl (by decide)) (BG.put (by unfold BK; omega)) (by rw [zu_at]; omega) ⟨?_, ?_, ?_, ?_, ?_, ?_, ?_, ?_, ?_, ?_⟩ (h.mh.to (zu_ne (by omega)) (zu_ne (by omega)) (zu_ne (by omega)) (zu_ne (by omega)) (zu_ne (by omega)) (zu_ne (by omega))) (h.mp.to (zu_ne (by omega)) (zu_ne (by omega)) (zu_ne (by omega)) (zu_ne (by omega)) (zu_ne (by omega)) (zu_ne (by omega)) (zu_ne (by omega)) (zu_ne (by omega))) (h.ms.to (zu_ne (by omega)) (zu_ne (by omega)) (zu_ne (by omega)) (zu_ne (by omega)))
  · rw [zu_at, zu_at]
  · rw [zu_pl (by decide), zu_pl (by decide)]; exact d2
  · rw [zu_pl (by decide), zu_pl (by decide)]; exact d3
  · rw [zu_pl (by decide), zu_pl (by decide)]; exact d4
  · rw [zu_pl (by decide), zu_pl (by decide)]; exact d5
  · rw [zu_pl (by decide), zu_pl (by decide)]; exact d6
  · rw [zu_at]; omega
  · rw [zu_pl (by decide)]; exact d8
  · rw [zu_pl (by decide)]; exact d9
  · rw [zu_at, zu_pl (by decide)]; omega
theorem zu8_5 (Z : Sg) (a b c d : Int) : zu Z 8 a b c d 5 = Z 5 := by
  funext r k i
  exact if_neg (fun e => absurd e.1 (by decide))
/-- what the record of a week holds -/
def rcv (S : Sg) (r F q : Int) : Int := if q = 0 then sF (inC S r 0) 0 (S 0 r 6 0).toNat else if q = 1 then sF (inC S r 1) 0 (S 0 r 6 0).toNat else if q = 2 then S 0 r 32 0 else if q = 3 then S 0 r 0 1 else F
theorem w_end {X Y : Sg} {r w F : Int} (h : Rw X Y r w) (hlt : X 0 r 0 0 < 400) : ∃ Y2, zf_W_step_97 w F Y = some (0, zu Y2 5 w 0 0 (X 0 r 0 0 + 1)) ∧ Y2 5 = Y 5 ∧ Y2 6 = Y 6 ∧ Y2 7 = Y 7 ∧ (∀ q, 0 ≤ q → q < 5 → Y2 8 w q (X 0 r 0 0) = rcv X r F q) ∧ (∀ q j, j ≠ X 0 r 0 0 → Y2 8 w q j = Y 8 w q j) := by
  have hw := h.mc.1
  have hw0 := h.mc.2.2.2.2.2.2.1
  have h25 := (h.ms.1 0 (by decide) (by decide)).1
  have h38 := h.mc.2.1
  have h3 := h.1.2.2.1
  have hx : 0 ≤ X 0 r 0 0 ∧ X 0 r 0 0 < 401 := by omega
  have eI : ∀ (Z : Sg) (t : Int), Z 5 = Y 5 → zf_W_inState w t Z = some (sF (inC X r t) 0 (X 0 r 6 0).toNat, Z) := by
    intro Z t hZ
    have q : sF (inM Z w t) 0 (Z 5 w 0 1).toNat = sF (inM Y w t) 0 (Y 5 w 0 1).toNat := by
      unfold inM
      rw [hZ]
    have := h3.1
    have := h3.2.1
    rw [pf_W_inState (by rw [hZ]; omega), q, in_like2 h3]
  unfold zf_W_step_97
  rw [eI Y 0 rfl, zbd_s]
  simp only [zlt_v, zu8_5, hw, zck_b hx]
  rw [eI _ 1 (zu8_5 _ _ _ _ _), zbd_s]
  simp only [zlt_v, zu8_5, hw, zck_b hx, h25, h38]
  rw [zw_in (x := X 0 r 0 0 + 1) (by omega) (by omega)]
  refine ⟨_, rfl, ?_, ?_, ?_, ?_, ?_⟩
  · simp only [zu8_5]
  · funext r' k i
    simp [zu]
  · funext r' k i
    simp [zu]
  · intro q a b
    have e : q = 0 ∨ q = 1 ∨ q = 2 ∨ q = 3 ∨ q = 4 := by omega
    unfold rcv
    rcases e with e | e | e | e | e <;> subst e <;> simp [zu]
  · intro q j hj
    simp [zu, hj]
theorem zor16 {L0 L1 L2 L3 : Int} (h0 : L0 = 0 ∨ L0 = 1) (h1 : L1 = 0 ∨ L1 = 1) (h2 : L2 = 0 ∨ L2 = 1) (h3 : L3 = 0 ∨ L3 = 1) : zor L0 (2 * L1 + 4 * L2 + 8 * L3) = L0 + 2 * L1 + 4 * L2 + 8 * L3 ∧ zand (zshr (L0 + 2 * L1 + 4 * L2 + 8 * L3) 1) 1 = L1 := by
  rcases h0 with e | e <;> rcases h1 with e1 | e1 <;> rcases h2 with e2 | e2 <;> rcases h3 with e3 | e3 <;> subst e e1 e2 e3 <;> decide +kernel
theorem Rcr.to {S S2 : Sg} (h : Rcr S) (h20 : S2 20 = S 20) (h3 : S2 3 = S 3) : Rcr S2 := by
  unfold Rcr at *
  rw [h20, h3]
  exact h
theorem tw_pass {S T : Sg} {r w : Int} (h : Rw S T r w) (hcr : Rcr S) (hz : ∀ k i, zn (S 14 r k i)) (hlt : S 0 r 0 0 < 400) : ∃ (L0 L1 L2 L3 : Int) (S2 T2 : Sg), (L0 = 0 ∨ L0 = 1) ∧ (L1 = 0 ∨ L1 = 1) ∧ (L2 = 0 ∨ L2 = 1) ∧ (L3 = 0 ∨ L3 = 1) ∧ zf_A_pass r S = some (L0 + 2 * L1 + 4 * L2 + 8 * L3, S2) ∧ zf_W_step w T = some (0, T2) ∧ Rw S2 T2 r w ∧ Rcr S2 ∧ S2 0 r 0 0 = S 0 r 0 0 + 1 ∧ T2 5 w 34 0 = L0 ∧ T2 5 w 34 1 = L1 ∧ T2 5 w 34 2 = L2 ∧ T2 5 w 34 3 = L3 ∧ (∀ q, 0 ≤ q → q < 5 → T2 8 w q (S 0 r 0 0) = rcv S2 r (S2 3 0 15 7) q) ∧ (∀ q j, j ≠ S 0 r 0 0 → T2 8 w q j = T 8 w q j) := by
  have hwr := h.mc.2.2.2.2.2.2.1
  have hn := h.1.2.2.1.2.1
  obtain ⟨v, y1, y2, y3⟩ := sky_all (k := 0) (x := S 0 r 0 0) (by decide) h (hz 0) hwr
  obtain ⟨A, B, n3, g1, g2, g3, g4, g5⟩ := w_guests (r := r) (w := w) (N := S 0 r 6 0) (S 0 r 6 0).toNat 4096 4096 0 S T (by decide) (by omega) hn.2 rfl (by omega) (by omega) h
  have a14 : A 14 = S 14 := by funext r' k; exact g4.1 14 r' k (by unfold AK; omega)
  have bN : B 5 w 0 1 ≤ S 0 r 6 0 := by rw [g3.1.2.2.1.1, g4.1 0 r 6 (by unfold AK; omega)]; exact Int.le_refl _
  obtain ⟨A2, A3, A4, B4, p1, p2, p3, p4, p5, p6, p7, p8⟩ := tw_water g3 (fun i => by rw [a14]; exact hz 1 i)
  obtain ⟨A5, B5, q1, q2, q3, q4, q5, q6, q7⟩ := tw_graze p5
  have aE : AG r S A5 := (g4.trans p6).trans q4
  have bE : BG w T B5 := (g5.trans p7).trans q5
  have e14 : A5 14 = S 14 := by funext r' k; exact aE.1 14 r' k (by unfold AK; omega)
  have eW : A5 0 r 0 0 = S 0 r 0 0 := aE.2.2
  obtain ⟨v', y4, y5, y6⟩ := sky_all (k := 0) (x := S 0 r 0 0) (by decide) q3 (fun i => by rw [e14]; exact hz 0 i) hwr
  have ev : v' = v := by
    have c := y3 B5 bE
    rw [y6 B5 (BG.refl w B5)] at c
    injection c with c
    injection c with c _
  rw [ev] at y4 y6
  have main : ∀ calm : Int, (calm = 0 ↔ S 0 r 1 1 < v) → ∃ (L0 L1 L2 L3 : Int) (S2 T2 : Sg), (L0 = 0 ∨ L0 = 1) ∧ (L1 = 0 ∨ L1 = 1) ∧ (L2 = 0 ∨ L2 = 1) ∧ (L3 = 0 ∨ L3 = 1) ∧ zf_A_pass_25 r calm S = some (L0 + 2 * L1 + 4 * L2 + 8 * L3, S2) ∧ zf_W_step w T = some (0, T2) ∧ Rw S2 T2 r w ∧ Rcr S2 ∧ S2 0 r 0 0 = S 0 r 0 0 + 1 ∧ T2 5 w 34 0 = L0 ∧ T2 5 w 34 1 = L1 ∧ T2 5 w 34 2 = L2 ∧ T2 5 w 34 3 = L3 ∧ (∀ q, 0 ≤ q → q < 5 → T2 8 w q (S 0 r 0 0) = rcv S2 r (S2 3 0 15 7) q) ∧ (∀ q j, j ≠ S 0 r 0 0 → T2 8 w q j = T 8 w q j) := by
    intro calm hcm
    obtain ⟨F, C, A6, B6, f1, f2, f3, f4, f5, f6, f7, f8, f9, f10, f11, ⟨U, f12, f13⟩, f14⟩ := tw_workAll (calm := calm) (v := v) q3 (aE.rcr hcr) (by rw [eW]; exact y4) (fun i => by rw [e14]; exact hz 0 i) (by rw [aE.1 0 r 1 (by unfold AK; omega)]; exact hcm)
    rw [eW] at f14
    have c0 : C 0 = A5 0 := f10.g (by decide) (by decide) (by decide)
    have k5 : ∀ k, (k = 1 ∨ k = 6 ∨ k = 8 ∨ k = 26) → A5 0 r k = S 0 r k := fun k hk => aE.1 0 r k (by unfold AK; omega)
    have k6 : ∀ k, (k = 1 ∨ k = 6 ∨ k = 8 ∨ k = 26) → A6 0 r k = S 0 r k := fun k hk => by rw [f11.1 0 r k (by unfold AK; omega), c0, k5 k hk]
    have w6 : A6 0 r 0 0 = S 0 r 0 0 := by rw [f11.2.2, c0, eW]
    have H6 : Hds A6 r := (p8.ag q4 q6 q7).to f7 f8 (by rw [k6 8 (by omega), k5 8 (by omega)]) (by rw [k6 6 (by omega), k5 6 (by omega)])
    rw [k5 26 (by omega)] at f9
    obtain ⟨b, A7, B7, s1, s2, s3, s4, s5, s6, s7, s8, s9, s10⟩ := tw_ship (calm := calm) (v := v) f4 (by rw [k6 1 (by omega)]; exact hcm) (by rw [w6]; exact f14 B6 (BG.refl w B6))
    obtain ⟨L0, A8, B8, t1, t2, t3, t4, t5, t6, t7, t8, t9, t10⟩ := tw_eat s6
    have H8 : Hds A8 r := (H6.ag s7 s9 s10).to t8 t9 (t5.1 0 r 8 (by unfold AK; omega)) (t5.1 0 r 6 (by unfold AK; omega))
    obtain ⟨L1, L2, L3, A9, B9, u1, u2, u3, u4, u5, u6, u7, u8, u9, u10, u11, u12, u13, u14⟩ := tw_burn t4 H8
    have a69 : AG r A6 A9 := (s7.trans t5).trans u7
    have b69 : BG w B6 B9 := (s8.trans t6).trans u8
    obtain ⟨A10, B10, x1, x2, x3, x4, x5, x6⟩ := tw_fret (L := L1) u6 (by rw [a69.1 0 r 26 (by unfold AK; omega), k6 26 (by omega)]; exact f9.to a69 b69) u1 u12
    have x34 : B10 5 w 34 = B9 5 w 34 := by
      funext j
      exact zk_W_grumble (W := zr_W_grumble w) (fun _ _ _ _ e => e) B9 (Fm.refl _ _) 0 B10 x2 5 w 34 j (by unfold zr_W_grumble; omega)
    have w10 : A10 0 r 0 0 = S 0 r 0 0 := by rw [x4.2.2, a69.2.2, w6]
    have hF : A10 3 0 15 7 = F := by rw [x6, u9, t7, s9, f6]
    have hc10 : Rcr A10 := (a69.trans x4).rcr f5
    have rest : ∀ (V : Int) (A B : Sg), Rw A B r w → AG r A10 A → BG w B10 B → A 3 0 15 = A10 3 0 15 → B 5 w 34 = B10 5 w 34 → ∃ (S2 T2 : Sg), zf_A_pass_148 r b V A = some (V, S2) ∧ zf_W_step_89 w F b B = some (0, T2) ∧ Rw S2 T2 r w ∧ Rcr S2 ∧ S2 0 r 0 0 = S 0 r 0 0 + 1 ∧ T2 5 w 34 = B10 5 w 34 ∧ (∀ q, 0 ≤ q → q < 5 → T2 8 w q (S 0 r 0 0) = rcv S2 r (S2 3 0 15 7) q) ∧ (∀ q j, j ≠ S 0 r 0 0 → T2 8 w q j = B10 8 w q j) := by
      intro V A B hR hA hB h15 h34
      have fin : ∀ (A' B' : Sg), Rw A' B' r w → AG r A A' → BG w B B' → A' 3 0 15 = A 3 0 15 → B' 5 w 34 = B 5 w 34 → ∃ (S2 T2 : Sg), zf_A_pass_157 r V A' = some (V, S2) ∧ zf_W_step_97 w F B' = some (0, T2) ∧ Rw S2 T2 r w ∧ Rcr S2 ∧ S2 0 r 0 0 = S 0 r 0 0 + 1 ∧ T2 5 w 34 = B10 5 w 34 ∧ (∀ q, 0 ≤ q → q < 5 → T2 8 w q (S 0 r 0 0) = rcv S2 r (S2 3 0 15 7) q) ∧ (∀ q j, j ≠ S 0 r 0 0 → T2 8 w q j = B10 8 w q j) := by
        intro A' B' hR' hA' hBB h15' h34'
        have hwk : A' 0 r 0 0 = S 0 r 0 0 := by rw [hA'.2.2, hA.2.2, w10]
        obtain ⟨Y, m1, m2, m3, m4, m5, m6⟩ := w_end (F := F) hR' (by omega)
        have hN := (hR'.to8 m2 m3 m4).next (by omega)
        rw [hwk] at m1 hN m5 m6
        refine ⟨zu A' 0 r 0 0 (S 0 r 0 0 + 1), zu Y 5 w 0 0 (S 0 r 0 0 + 1), ?_, m1, hN, ?_, zu_at _ _ _ _ _ _, ?_, ?_, fun q j hj => ?_⟩
        · unfold zf_A_pass_157
          rw [zlt_v, hwk, zw_in (by omega) (by omega)]
        · refine ((hA.trans hA').rcr hc10).to ?_ ?_
          · funext r' k; exact zu_ne (by omega)
          · funext r' k; exact zu_ne (by omega)
        · rw [zu_ne (by omega), m2, h34', h34]
        · intro q a b
          have e8 : zu Y 5 w 0 0 (S 0 r 0 0 + 1) 8 w q = Y 8 w q := zu_ne (by omega)
          have e15 : zu A' 0 r 0 0 (S 0 r 0 0 + 1) 3 0 15 7 = F := by rw [zu_ne (by omega), h15', h15, hF]
          rw [e8, m5 q a b, e15]
          unfold rcv inC
          rw [show zu A' 0 r 0 0 (S 0 r 0 0 + 1) 0 r 11 = A' 0 r 11 from zu_ne (by omega), show zu A' 0 r 0 0 (S 0 r 0 0 + 1) 0 r 6 = A' 0 r 6 from zu_ne (by omega), show zu A' 0 r 0 0 (S 0 r 0 0 + 1) 0 r 32 = A' 0 r 32 from zu_ne (by omega), show zu A' 0 r 0 0 (S 0 r 0 0 + 1) 0 r 0 1 = A' 0 r 0 1 from zu_pl (by decide)]
        · rw [show zu Y 5 w 0 0 (S 0 r 0 0 + 1) 8 w q = Y 8 w q from zu_ne (by omega), m6 q j hj, hBB 8 w q j (by unfold BK; omega), hB 8 w q j (by unfold BK; omega)]
      unfold zf_A_pass_148 zf_W_step_89
      rcases s1 with e | e
      · rw [if_pos e, if_pos e]
        exact fin A B hR (AG.refl r A) (BG.refl w B) rfl rfl
      · obtain ⟨A', B', z1, z2, z3, z4, z5, z6⟩ := tw_leave hR
        rw [if_neg (by omega), if_neg (by omega), z1, zbd_s, z2, zbd_s]
        refine fin A' B' z3 z4 z5 z6 ?_
        funext j
        exact zk_W_leave (W := zr_W_leave w) (fun _ _ _ _ e => e) B (Fm.refl _ _) 0 B' z2 5 w 34 j (by unfold zr_W_leave; omega)
    obtain ⟨S2, T2, o1, o2, o3, o4, o5, o6, o7, o8⟩ : ∃ (S2 T2 : Sg), zf_A_pass_131 r b (L0 + 2 * L1 + 4 * L2 + 8 * L3) L1 A9 = some (L0 + 2 * L1 + 4 * L2 + 8 * L3, S2) ∧ (zbd (zf_W_grumble w B9) fun _ S15 => if (zrem (S15 5 w 0 0) 4) = 3 then (zbd (zf_W_pay w S15) fun _ S18 => zf_W_step_89 w F b S18) else (zf_W_step_89 w F b S15)) = some (0, T2) ∧ Rw S2 T2 r w ∧ Rcr S2 ∧ S2 0 r 0 0 = S 0 r 0 0 + 1 ∧ T2 5 w 34 = B10 5 w 34 ∧ (∀ q, 0 ≤ q → q < 5 → T2 8 w q (S 0 r 0 0) = rcv S2 r (S2 3 0 15 7) q) ∧ (∀ q j, j ≠ S 0 r 0 0 → T2 8 w q j = B10 8 w q j) := by
      unfold zf_A_pass_131
      rw [x1, zbd_s, x2, zbd_s, x3.mc.1]
      by_cases q : zrem (A10 0 r 0 0) 4 = 3
      · rw [if_pos q, if_pos q]
        obtain ⟨A', B', z1, z2, z3, z4, z5, z6⟩ := tw_pay x3
        rw [z1, zbd_s, z2, zbd_s]
        refine rest _ A' B' z3 z4 z5 (by rw [z6]) ?_
        funext j
        exact zk_W_pay (W := zr_W_pay w) (fun _ _ _ _ e => e) B10 (Fm.refl _ _) 0 B' z2 5 w 34 j (by unfold zr_W_pay; omega)
      · rw [if_neg q, if_neg q]
        exact rest _ A10 B10 x3 (AG.refl r A10) (BG.refl w B10) rfl rfl
    have zo := zor16 t1 u1 u2 u3
    have e101 : zf_A_pass_101 r b A7 = some (L0 + 2 * L1 + 4 * L2 + 8 * L3, S2) := by
      unfold zf_A_pass_101
      rw [t2, zbd_s, u4, zbd_s, zlt_v, zo.1, zo.2]
      by_cases q : L1 = 1
      · rw [if_pos q]
        rw [q] at o1 ⊢
        exact o1
      · have q0 : L1 = 0 := by omega
        rw [if_neg q]
        rw [q0] at o1 ⊢
        exact o1
    refine ⟨L0, L1, L2, L3, S2, T2, t1, u1, u2, u3, ?_, ?_, o3, o4, o5, ?_, ?_, ?_, ?_, o7, fun q j hj => ?_⟩
    · unfold zf_A_pass_25 zf_A_sendGuestsOff
      rw [g1, zbd_s, p1, zbd_s, p2, zbd_s, p3, zbd_s, q1, zbd_s, f1, zbd_s, zlt_v, f2, zbd_s, s2, zbd_s]
      rcases s1 with e | e
      · rw [if_pos e, ← s3 e]
        exact e101
      · have l := s4 (by omega)
        rw [if_neg (by omega), zlt_v, show zu A6 0 r 0 6 (A6 0 r 0 0) 0 r 1 0 = A6 0 r 1 0 by rw [zu_ne (by omega)], l, zbd_s]
        exact e101
    · unfold zf_W_step
      rw [g2, zf_W_step_2, if_pos bN, p4, zbd_s, q2, zbd_s, f3, zbd_s, s5, zbd_s, t3, zbd_s, u5, zbd_s]
      exact o2
    · rw [o6, x34, u11, t10]
    · rw [o6, x34, u12]
    · rw [o6, x34, u13]
    · rw [o6, x34, u14]
    · rw [o8 q j hj, x5 8 w q j (by unfold BK; omega), b69 8 w q j (by unfold BK; omega), f13 8 w q j (by unfold BK; omega), f12 8 w q j (by omega) (by omega), bE 8 w q j (by unfold BK; omega)]
  have eP : zf_A_pass r S = (if S 0 r 1 1 < v then zf_A_pass_25 r 0 S else zf_A_pass_25 r 1 S) := by
    unfold zf_A_pass
    rw [y1, zbd_s]
  rw [eP]
  by_cases q : S 0 r 1 1 < v
  · rw [if_pos q]
    exact main 0 ⟨fun _ => q, fun _ => rfl⟩
  · rw [if_neg q]
    exact main 1 ⟨fun e => absurd e (by decide), fun e => absurd e q⟩
