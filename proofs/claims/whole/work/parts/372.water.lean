/-! ===== a week: guests go, rain falls, all drink ===== -/
theorem kind5a {st en b sk wk : Int} (h : st ≠ 0) : kindS st en b sk wk ≠ 5 ∨ ¬ (0 ≤ st ∧ st ≤ 2) := by
  by_cases h2 : st = 2
  · left; unfold kindS; rw [if_pos h2]; decide
  · by_cases h1 : st = 1
    · left; unfold kindS; rw [if_neg h2, if_pos h1]; decide
    · right; omega
theorem Rw.off {S T : Sg} {r w i : Int} (h : Rw S T r w) : Rw (zu S 0 r 11 i 2) (zu T 5 w 5 i 2) r w := by
  refine h.step (AG.put (by unfold AK; omega) (by omega)) (BG.put (by unfold BK; omega)) (h.mc.to (zu_ne (by omega)) (zu_ne (by omega))) (h.mh.to (zu_ne (by omega)) (zu_ne (by omega)) (zu_ne (by omega)) (zu_ne (by omega)) (zu_ne (by omega)) (zu_ne (by omega))) ?_ (h.ms.to (zu_ne (by omega)) (zu_ne (by omega)) (zu_ne (by omega)) (zu_ne (by omega)))
  intro j p q
  have c := h.mp j p q
  by_cases e : j = i
  · subst e
    refine ⟨by rw [zu_at, zu_at], by rw [zu_ne (by omega), zu_ne (by omega)]; exact c.2.1, by rw [zu_ne (by omega), zu_ne (by omega)]; exact c.2.2.1, by rw [zu_ne (by omega), zu_ne (by omega)]; exact c.2.2.2.1, by rw [zu_at]; decide, by rw [zu_ne (by omega)]; exact c.2.2.2.2.2.1, by rw [zu_ne (by omega)]; exact c.2.2.2.2.2.2.1, by rw [zu_ne (by omega)]; exact c.2.2.2.2.2.2.2⟩
  · refine ⟨by rw [zu_pl e, zu_pl e]; exact c.1, by rw [zu_ne (by omega), zu_ne (by omega)]; exact c.2.1, by rw [zu_ne (by omega), zu_ne (by omega)]; exact c.2.2.1, by rw [zu_ne (by omega), zu_ne (by omega)]; exact c.2.2.2.1, by rw [zu_pl e]; exact c.2.2.2.2.1, by rw [zu_ne (by omega)]; exact c.2.2.2.2.2.1, by rw [zu_ne (by omega)]; exact c.2.2.2.2.2.2.1, by rw [zu_ne (by omega)]; exact c.2.2.2.2.2.2.2⟩
/-- guests whose time is over go -/
theorem w_guests {r w N : Int} : ∀ (c n n2 : Nat) (i : Int) (S T : Sg), 0 ≤ i → i + c = N → N ≤ 40 → S 0 r 6 0 = N → c < n → c < n2 → Rw S T r w → ∃ (S2 T2 : Sg) (n3 : Nat), zf_A_sendGuestsOff_7 r n i S = some (0, S2) ∧ zf_W_step_2 w n2 i T = zf_W_step_2 w (n3 + 1) N T2 ∧ Rw S2 T2 r w ∧ AG r S S2 ∧ BG w T T2
  | 0, n + 1, n2 + 1, i, S, T, hi, hc, h40, hN, _, _, h => by
    refine ⟨S, T, n2, ?_, ?_, h, AG.refl r S, BG.refl w T⟩
    · rw [zf_A_sendGuestsOff_7, if_pos (by omega)]
    · rw [show i = N by omega]
  | c + 1, n + 1, n2 + 1, i, S, T, hi, hc, h40, hN, h1, h2, h => by
    obtain ⟨c1, c2, c3, c4, c5, c6, c7, c8, c9, c10, c11, c12, c13, c14, -⟩ := h.1.2.2.1.2.2 i hi (by omega)
    have hn := h.1.2.2.1.1
    have hwk := h.mc.1
    have hwr := h.mc.2.2.2.2.2.2.1
    have hx : 0 ≤ i ∧ i < 40 := by omega
    have go : ∀ S' T' : Sg, Rw S' T' r w → S' 0 r 6 0 = N → AG r S S' → BG w T T' → ∃ (S2 T2 : Sg) (n3 : Nat), zf_A_sendGuestsOff_53 r (zf_A_sendGuestsOff_7 r n) i S' = some (0, S2) ∧ zf_W_step_39 w (zf_W_step_2 w n2) i T' = zf_W_step_2 w (n3 + 1) N T2 ∧ Rw S2 T2 r w ∧ AG r S S2 ∧ BG w T T2 := by
      intro S' T' h' e ha hb
      obtain ⟨S2, T2, n3, k1, k2, k3, k4, k5⟩ := w_guests c n n2 (i + 1) S' T' (by omega) (by omega) h40 e (by omega) (by omega) h'
      refine ⟨S2, T2, n3, ?_, ?_, k3, ha.trans k4, hb.trans k5⟩
      · unfold zf_A_sendGuestsOff_53
        rw [zlt_v, zw_in (by omega) (by omega)]
        exact k1
      · unfold zf_W_step_39
        rw [zlt_v, zw_in (by omega) (by omega)]
        exact k2
    have eC : zf_A_sendGuestsOff_7 r (n + 1) i S = (if S 0 r 11 i = 0 then (if S 0 r 12 i < 0 then zf_A_sendGuestsOff_53 r (zf_A_sendGuestsOff_7 r n) i S else if S 0 r 0 0 < S 0 r 12 i then zf_A_sendGuestsOff_53 r (zf_A_sendGuestsOff_7 r n) i S else zf_A_sendGuestsOff_53 r (zf_A_sendGuestsOff_7 r n) i (zu S 0 r 11 i 2)) else zf_A_sendGuestsOff_53 r (zf_A_sendGuestsOff_7 r n) i S) := by
      rw [zf_A_sendGuestsOff_7, if_neg (show ¬ S 0 r 6 0 ≤ i by omega), zck_b hx] <;> rfl
    have eM : zf_W_step_2 w (n2 + 1) i T = (if kindS (S 0 r 11 i) (S 0 r 12 i) (S 0 r 7 i) (S 0 r 10 i) (S 0 r 0 0) = 5 then (if S 0 r 0 0 < S 0 r 12 i then zf_W_step_39 w (zf_W_step_2 w n2) i T else zf_W_step_39 w (zf_W_step_2 w n2) i (zu T 5 w 5 i 2)) else zf_W_step_39 w (zf_W_step_2 w n2) i T) := by
      rw [zf_W_step_2, if_neg (show ¬ T 5 w 0 1 ≤ i by omega), pf_W_kind hx (by omega) (by omega), zbd_s, zck_b hx, c5, c6, c1, c4, hwk] <;> rfl
    rw [eC, eM]
    by_cases s0 : S 0 r 11 i = 0
    · rw [if_pos s0]
      by_cases s12 : S 0 r 12 i < 0
      · rw [if_pos s12, if_neg (show ¬ kindS (S 0 r 11 i) (S 0 r 12 i) (S 0 r 7 i) (S 0 r 10 i) (S 0 r 0 0) = 5 by rw [kind5 s0]; omega)]
        exact go S T h hN (AG.refl r S) (BG.refl w T)
      · rw [if_neg s12, if_pos (show kindS (S 0 r 11 i) (S 0 r 12 i) (S 0 r 7 i) (S 0 r 10 i) (S 0 r 0 0) = 5 by rw [kind5 s0]; omega)]
        by_cases s3 : S 0 r 0 0 < S 0 r 12 i
        · rw [if_pos s3, if_pos s3]
          exact go S T h hN (AG.refl r S) (BG.refl w T)
        · rw [if_neg s3, if_neg s3]
          exact go _ _ h.off (by rw [zu_ne (by omega)]; exact hN) (AG.put (by unfold AK; omega) (by omega)) (BG.put (by unfold BK; omega))
    · rw [if_neg s0, if_neg (show ¬ kindS (S 0 r 11 i) (S 0 r 12 i) (S 0 r 7 i) (S 0 r 10 i) (S 0 r 0 0) = 5 from (kind5a s0).elim id (fun q => absurd c14 q))]
      exact go S T h hN (AG.refl r S) (BG.refl w T)
theorem Rw.tank {S T : Sg} {r w i v : Int} (h : Rw S T r w) (hv : 0 ≤ v ∧ v ≤ 200) : Rw (zu S 0 r 3 i v) (zu T 5 w 11 i v) r w := by
  refine h.step (AG.put (by unfold AK; omega) (by omega)) (BG.put (by unfold BK; omega)) (h.mc.to (zu_ne (by omega)) (zu_ne (by omega))) ?_ (h.mp.to (zu_ne (by omega)) (zu_ne (by omega)) (zu_ne (by omega)) (zu_ne (by omega)) (zu_ne (by omega)) (zu_ne (by omega)) (zu_ne (by omega)) (zu_ne (by omega))) (h.ms.to (zu_ne (by omega)) (zu_ne (by omega)) (zu_ne (by omega)) (zu_ne (by omega)))
  intro j p q
  have c := h.mh j p q
  by_cases e : j = i
  · subst e
    exact ⟨by rw [zu_ne (by omega), zu_ne (by omega)]; exact c.1, by rw [zu_at, zu_at], by rw [zu_ne (by omega), zu_ne (by omega)]; exact c.2.2.1, by rw [zu_ne (by omega)]; exact c.2.2.2.1, by rw [zu_at]; exact hv, by rw [zu_ne (by omega)]; exact c.2.2.2.2.2⟩
  · exact ⟨by rw [zu_ne (by omega), zu_ne (by omega)]; exact c.1, by rw [zu_pl e, zu_pl e]; exact c.2.1, by rw [zu_ne (by omega), zu_ne (by omega)]; exact c.2.2.1, by rw [zu_ne (by omega)]; exact c.2.2.2.1, by rw [zu_pl e]; exact c.2.2.2.2.1, by rw [zu_ne (by omega)]; exact c.2.2.2.2.2⟩
theorem Rw.dry {S T : Sg} {r w i v : Int} (h : Rw S T r w) (hv : 0 ≤ v ∧ v ≤ 1) : Rw (zu S 0 r 5 i v) (zu T 5 w 13 i v) r w := by
  refine h.step (AG.put (by unfold AK; omega) (by omega)) (BG.put (by unfold BK; omega)) (h.mc.to (zu_ne (by omega)) (zu_ne (by omega))) ?_ (h.mp.to (zu_ne (by omega)) (zu_ne (by omega)) (zu_ne (by omega)) (zu_ne (by omega)) (zu_ne (by omega)) (zu_ne (by omega)) (zu_ne (by omega)) (zu_ne (by omega))) (h.ms.to (zu_ne (by omega)) (zu_ne (by omega)) (zu_ne (by omega)) (zu_ne (by omega)))
  intro j p q
  have c := h.mh j p q
  by_cases e : j = i
  · subst e
    exact ⟨by rw [zu_ne (by omega), zu_ne (by omega)]; exact c.1, by rw [zu_ne (by omega), zu_ne (by omega)]; exact c.2.1, by rw [zu_at, zu_at], by rw [zu_ne (by omega)]; exact c.2.2.2.1, by rw [zu_ne (by omega)]; exact c.2.2.2.2.1, by rw [zu_at]; exact hv⟩
  · exact ⟨by rw [zu_ne (by omega), zu_ne (by omega)]; exact c.1, by rw [zu_ne (by omega), zu_ne (by omega)]; exact c.2.1, by rw [zu_pl e, zu_pl e]; exact c.2.2.1, by rw [zu_ne (by omega)]; exact c.2.2.2.1, by rw [zu_ne (by omega)]; exact c.2.2.2.2.1, by rw [zu_pl e]; exact c.2.2.2.2.2⟩
theorem Rw.grass {S T : Sg} {r w v : Int} (h : Rw S T r w) (hv : 0 ≤ v ∧ v ≤ 500) : Rw (zu S 0 r 0 4 v) (zu T 5 w 0 15 v) r w := by
  refine h.step (AG.put (by unfold AK; omega) (by omega)) (BG.put (by unfold BK; omega)) (h.mc.grass (fun i q => zu_pl q) (fun i q => zu_pl q) (by rw [zu_at, zu_at]) (by rw [zu_at]; exact hv)) (h.mh.to (zu_ne (by omega)) (zu_ne (by omega)) (zu_ne (by omega)) (zu_ne (by omega)) (zu_ne (by omega)) (zu_ne (by omega))) (h.mp.to (zu_ne (by omega)) (zu_ne (by omega)) (zu_ne (by omega)) (zu_ne (by omega)) (zu_ne (by omega)) (zu_ne (by omega)) (zu_ne (by omega)) (zu_ne (by omega))) (h.ms.to (zu_ne (by omega)) (zu_ne (by omega)) (zu_ne (by omega)) (zu_ne (by omega)))
/-- rain on the roofs and on the grass -/
theorem w_rain {r w a : Int} (ha : 0 ≤ a ∧ a ≤ 2147483647) : ∀ (c n n2 : Nat) (j : Int) (S T : Sg), 0 ≤ j → j + c = 12 → c < n → c < n2 → Rw S T r w → ∃ S2 T2 : Sg, zf_A_letRain_15 r n a j S = some (0, S2) ∧ zf_W_water_13 w n2 a j T = zf_W_water_75 w 4096 0 T2 ∧ Rw S2 T2 r w ∧ AG r S S2 ∧ BG w T T2
  | 0, n + 1, n2 + 1, j, S, T, hj, hc, _, _, h => by
    have hg := h.mc.2.2.2.2.1
    have hgr := h.mc.2.2.2.2.2.2.2.2.1
    rw [zf_A_letRain_15, if_pos (show (12 : Int) ≤ j by omega), zf_W_water_13, if_pos (show (12 : Int) ≤ j by omega), zlt_v, zlt_v, hg, zv_id (x := S 0 r 0 4 + a) (by unfold zm; omega), zw_in (x := min 500 (S 0 r 0 4 + a)) (by omega) (by omega)]
    exact ⟨_, _, rfl, rfl, h.grass (by omega), AG.put (by unfold AK; omega) (by omega), BG.put (by unfold BK; omega)⟩
  | c + 1, n + 1, n2 + 1, j, S, T, hj, hc, h1, h2, h => by
    have hh := h.mh j hj (by omega)
    have hr := h.1.2.1 j hj (by omega)
    have e11 : T 5 w 11 j = S 0 r 3 j := hr.2.1
    have e12 : T 5 w 12 j = S 0 r 4 j := hr.2.2.1
    have r3 : 0 ≤ S 0 r 3 j ∧ S 0 r 3 j ≤ 200 := hr.2.2.2.2.2.1
    have r4 : 1 ≤ S 0 r 4 j ∧ S 0 r 4 j ≤ 9 := hr.2.2.2.2.2.2.1
    have hp : 0 ≤ a * S 0 r 4 j ∧ a * S 0 r 4 j ≤ 2147483647 * 9 := ⟨Int.mul_nonneg ha.1 (by omega), Int.mul_le_mul ha.2 r4.2 (by omega) (by omega)⟩
    have hj12 : 0 ≤ j ∧ j < 12 := by omega
    rw [zf_A_letRain_15, if_neg (show ¬ (12 : Int) ≤ j by omega), zf_W_water_13, if_neg (show ¬ (12 : Int) ≤ j by omega), zck_b hj12, zck_b hj12, zlt_v, zlt_v, zlt_v, zlt_v, e11, e12]
    generalize a * S 0 r 4 j = m at hp
    rw [zv_id (x := m) (by unfold zm; omega), zv_id (x := S 0 r 3 j + m) (by unfold zm; omega), zw_in (x := min 200 (S 0 r 3 j + m)) (by omega) (by omega), zw_in (x := j + 1) (by omega) (by omega)]
    obtain ⟨S2, T2, k1, k2, k3, k4, k5⟩ := w_rain ha c n n2 (j + 1) _ _ (by omega) (by omega) (by omega) (by omega) (h.tank (i := j) (v := min 200 (S 0 r 3 j + m)) (by omega))
    exact ⟨S2, T2, k1, k2, k3, (AG.put (by unfold AK; omega) (by omega)).trans k4, (BG.put (by unfold BK; omega)).trans k5⟩
/-- the class counts heads by house -/
theorem c_heads {S : Sg} {r N : Int} (hN : N ≤ 40) (hh : ∀ i, 0 ≤ i → i < N → 0 ≤ S 0 r 8 i ∧ S 0 r 8 i < 12) : ∀ (c n : Nat) (i : Int) (U : Sg), 0 ≤ i → i + c = N → c < n → S 0 r 6 0 = N → U 0 = S 0 → (∀ h, 0 ≤ h → h < 12 → 0 ≤ U 3 0 18 h ∧ U 3 0 18 h ≤ i) → ∃ S2, zf_A_countHeads_10 r n i U = some (0, S2) ∧ (∀ (g : Nat) (r' k : Int), ¬ (g = 3 ∧ r' = 0 ∧ k = 18) → S2 g r' k = U g r' k) ∧ ∀ h, 0 ≤ h → h < 12 → S2 3 0 18 h = U 3 0 18 h + sF (hdC S r h) i c
  | 0, n + 1, i, U, hi, hc, _, hn, h0, hb => by
    rw [zf_A_countHeads_10, h0, if_pos (by omega)]
    exact ⟨U, rfl, fun _ _ _ _ => rfl, fun h _ _ => by simp [sF]⟩
  | c + 1, n + 1, i, U, hi, hc, hn1, hn, h0, hb => by
    rw [zf_A_countHeads_10, h0, if_neg (show ¬ S 0 r 6 0 ≤ i by omega), zck_b (by omega)]
    have h8 := hh i hi (by omega)
    unfold zf_A_countHeads_51
    simp only [zlt_v]
    rw [zw_in (x := i + 1) (by omega) (by omega)]
    by_cases s0 : S 0 r 11 i = 0
    · have b8 := hb _ h8.1 h8.2
      rw [if_pos s0, zck_b h8, zw_in (x := U 3 0 18 (S 0 r 8 i) + 1) (by omega) (by omega)]
      obtain ⟨S2, k1, k2, k3⟩ := c_heads hN hh c n (i + 1) (zu U 3 0 18 (S 0 r 8 i) (U 3 0 18 (S 0 r 8 i) + 1)) (by omega) (by omega) (by omega) hn (by funext r' k; rw [zu_ne (by omega), h0]) (fun h a b => by
        by_cases e : h = S 0 r 8 i
        · subst e
          rw [zu_at]; omega
        · rw [zu_pl e]
          have := hb h a b
          omega)
      refine ⟨S2, k1, fun g r' k q => by rw [k2 g r' k q, zu_ne q], fun h a b => ?_⟩
      rw [k3 h a b]
      show _ = U 3 0 18 h + (hdC S r h i + sF (hdC S r h) (i + 1) c)
      by_cases e : h = S 0 r 8 i
      · subst e
        rw [zu_at, show hdC S r (S 0 r 8 i) i = 1 from if_pos ⟨s0, rfl⟩]
        omega
      · rw [zu_pl e, show hdC S r h i = 0 from if_neg (fun q => e q.2.symm)]
        omega
    · rw [if_neg s0]
      obtain ⟨S2, k1, k2, k3⟩ := c_heads hN hh c n (i + 1) U (by omega) (by omega) (by omega) hn h0 (fun h a b => by have := hb h a b; omega)
      refine ⟨S2, k1, k2, fun h a b => ?_⟩
      rw [k3 h a b]
      show _ = U 3 0 18 h + (hdC S r h i + sF (hdC S r h) (i + 1) c)
      rw [show hdC S r h i = 0 from if_neg (fun q => s0 q.1)]
      omega
def Hds (S : Sg) (r : Int) : Prop := ∀ h, 0 ≤ h → h < 12 → S 3 0 18 h = sF (hdC S r h) 0 (S 0 r 6 0).toNat
theorem Hds.to {S S2 : Sg} {r : Int} (h : Hds S r) (h1 : S2 3 0 18 = S 3 0 18) (h2 : S2 0 r 11 = S 0 r 11) (h3 : S2 0 r 8 = S 0 r 8) (h4 : S2 0 r 6 = S 0 r 6) : Hds S2 r := by
  intro k a b
  rw [h1, h4, hdC_congr h2 h3]
  exact h k a b
theorem pf_countHeads {S T : Sg} {r w : Int} (h : Rw S T r w) : ∃ S2, zf_A_countHeads r S = some (0, S2) ∧ (∀ (g : Nat) (r' k : Int), ¬ (g = 3 ∧ r' = 0 ∧ k = 18) → S2 g r' k = S g r' k) ∧ Hds S2 r := by
  have hpp := h.1.2.2.1
  have hn := hpp.2.1
  unfold zf_A_countHeads
  rw [pf_fill (by decide), zbd_s]
  obtain ⟨S2, k1, k2, k3⟩ := c_heads (S := S) (r := r) hn.2 (fun i a b => by have q := (hpp.2.2 i a b).2.2.2.2.2.2.2.2.2.2.1; exact q) (S 0 r 6 0).toNat 4096 0 (zfl S 3 0 18 0 12 0) (by decide) (by omega) (by omega) rfl (by funext r' k; rw [zfl_ne (by omega)]) (fun q a b => by
    rw [show zfl S 3 0 18 0 12 0 3 0 18 q = 0 from if_pos ⟨rfl, rfl, rfl, by omega, by omega⟩]
    omega)
  have e0 : S2 0 = S 0 := by
    funext r' k
    rw [k2 0 r' k (by omega), zfl_ne (by omega)]
  refine ⟨S2, k1, fun g r' k q => by rw [k2 g r' k q, zfl_ne q], fun q a b => ?_⟩
  rw [k3 q a b, e0, hdC_congr (S := S) (S2 := S2) (by rw [e0]) (by rw [e0]), show zfl S 3 0 18 0 12 0 3 0 18 q = 0 from if_pos ⟨rfl, rfl, rfl, by omega, by omega⟩]
  omega
/-- all drink -/
theorem w_drink {r w : Int} : ∀ (c n n2 : Nat) (j : Int) (S T : Sg), 0 ≤ j → j + c = 12 → c < n → c < n2 → Hds S r → Rw S T r w → ∃ S2 T2 : Sg, zf_A_drink_2 r n j S = some (0, S2) ∧ zf_W_water_75 w n2 j T = some (0, T2) ∧ Rw S2 T2 r w ∧ AG r S S2 ∧ BG w T T2 ∧ Hds S2 r
  | 0, n + 1, n2 + 1, j, S, T, hj, hc, _, _, hH, h => by
    rw [zf_A_drink_2, if_pos (show (12 : Int) ≤ j by omega), zf_W_water_75, if_pos (show (12 : Int) ≤ j by omega)]
    exact ⟨S, T, rfl, rfl, h, AG.refl r S, BG.refl w T, hH⟩
  | c + 1, n + 1, n2 + 1, j, S, T, hj, hc, h1, h2, hH, h => by
    have hh := h.mh j hj (by omega)
    have hpp := h.1.2.2.1
    have hn := hpp.2.1
    have hn1 := hpp.1
    have hj12 : 0 ≤ j ∧ j < 12 := by omega
    have eH := hH j hj (by omega)
    have bH := sF_le (f := hdC S r j) (m := 1) (S 0 r 6 0).toNat 0 (fun i _ _ => by unfold hdC; split <;> decide)
    have e10 : T 5 w 10 j = S 0 r 2 j := hh.1
    have e11 : T 5 w 11 j = S 0 r 3 j := hh.2.1
    have r2 := hh.2.2.2.1
    have r3 := hh.2.2.2.2.1
    rw [zf_A_drink_2, if_neg (show ¬ (12 : Int) ≤ j by omega), zf_W_water_75, if_neg (show ¬ (12 : Int) ≤ j by omega), zck_b hj12, zlt_v, pf_W_heads (by omega), zbd_s, zck_b hj12, zlt_v, hd_like2 hpp, e10, e11, eH]
    generalize sF (hdC S r j) 0 (S 0 r 6 0).toNat = m at bH
    rw [zw_in (x := m + S 0 r 2 j) (by omega) (by omega)]
    have go : ∀ d : Int, 0 ≤ d ∧ d ≤ 1 → ∃ S2 T2 : Sg, zf_A_drink_42 r (zf_A_drink_2 r n) j (m + S 0 r 2 j) j d S = some (0, S2) ∧ zf_W_water_116 w (zf_W_water_75 w n2) j (m + S 0 r 2 j) j d T = some (0, T2) ∧ Rw S2 T2 r w ∧ AG r S S2 ∧ BG w T T2 ∧ Hds S2 r := by
      intro d hd
      unfold zf_A_drink_42 zf_W_water_116
      simp only [zck_b hj12, zlt_v]
      rw [show zu S 0 r 5 j d 0 r 3 j = S 0 r 3 j by rw [zu_ne (by omega)], show zu T 5 w 13 j d 5 w 11 j = S 0 r 3 j by rw [zu_ne (by omega)]; exact e11, zw_in (x := S 0 r 3 j - (m + S 0 r 2 j)) (by omega) (by omega), zw_in (x := j + 1) (by omega) (by omega)]
      obtain ⟨S2, T2, k1, k2, k3, k4, k5, k6⟩ := w_drink c n n2 (j + 1) _ _ (by omega) (by omega) (by omega) (by omega) (Hds.to (S2 := zu (zu S 0 r 5 j d) 0 r 3 j (max 0 (S 0 r 3 j - (m + S 0 r 2 j)))) hH (by rw [zu_ne (by omega), zu_ne (by omega)]) (by rw [zu_ne (by omega), zu_ne (by omega)]) (by rw [zu_ne (by omega), zu_ne (by omega)]) (by rw [zu_ne (by omega), zu_ne (by omega)])) ((h.dry (i := j) hd).tank (i := j) (v := max 0 (S 0 r 3 j - (m + S 0 r 2 j))) (by omega))
      exact ⟨S2, T2, k1, k2, k3, ((AG.put (by unfold AK; omega) (by omega)).trans (AG.put (by unfold AK; omega) (by omega))).trans k4, ((BG.put (by unfold BK; omega)).trans (BG.put (by unfold BK; omega))).trans k5, k6⟩
    by_cases q : m + S 0 r 2 j ≤ S 0 r 3 j
    · rw [if_pos q, if_pos q]
      exact go 0 (by decide)
    · rw [if_neg q, if_neg q]
      exact go 1 (by decide)
/-- rain and water, whole -/
theorem tw_water {S T : Sg} {r w : Int} (h : Rw S T r w) (hz : ∀ i, zn (S 14 r 1 i)) : ∃ S2 S4 S6 T2 : Sg, zf_A_letRain r S = some (0, S2) ∧ zf_A_countHeads r S2 = some (0, S4) ∧ zf_A_drink r S4 = some (0, S6) ∧ zf_W_water w T = some (0, T2) ∧ Rw S6 T2 r w ∧ AG r S S6 ∧ BG w T T2 ∧ Hds S6 r := by
  have hwk := h.mc.1
  have hwr := h.mc.2.2.2.2.2.2.1
  obtain ⟨v, e1, e2, e3⟩ := pf_sky (by decide) (h.rk (k := 1) (by decide) (by decide)) hz hwr
  obtain ⟨S2, U, k1, k2, k3, k4, k5⟩ := w_rain e3 12 4096 4096 0 S T (by decide) (by decide) (by decide) (by decide) h
  obtain ⟨S4, l1, l2, l3⟩ := pf_countHeads k3
  have h4 : Rw S4 U r w := k3.scr (fun g r' k q => l2 g r' k (by omega)) (fun _ _ _ _ _ => rfl)
  have a4 : AG r S2 S4 := ⟨fun g r' k q => l2 g r' k (fun e => q (by unfold AK; omega)), by rw [l2 0 r 0 (by omega)], by rw [l2 0 r 0 (by omega)]⟩
  obtain ⟨S6, T2, m1, m2, m3, m4, m5, m6⟩ := w_drink 12 4096 4096 0 S4 U (by decide) (by decide) (by decide) (by decide) l3 h4
  refine ⟨S2, S4, S6, T2, ?_, l1, m1, ?_, m3, (k4.trans a4).trans m4, k5.trans m5, m6⟩
  · unfold zf_A_letRain
    rw [e1, zbd_s]
    exact k1
  · unfold zf_W_water
    rw [hwk, e2, zbd_s, k2]
    exact m2
