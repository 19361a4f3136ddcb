/-! ===== the reference fills the posts ===== -/
def Pok2 (hN ft : Nat → Nat) (O p t z : Nat) : Prop := Crw 9 hN (Fw ft) p (tb t) (tb z) ∧ Hal 9 8 hN (Fw ft) (tb O) (p + 1) (tb (t ||| z))
/-- the cells of a world that the filling may change -/
def WB (w : Int) (T T2 : Sg) : Prop := ∀ (g : Nat) (r k : Int), ¬ (g = 21 ∧ r = w ∧ k = 0) → ¬ (g = 5 ∧ r = w ∧ k = 37) → T2 g r k = T g r k
theorem Rw2.keep {hN ft : Nat → Nat} {nP : Nat} {w : Int} {T T2 : Sg} (h : Rw2 hN ft nP w T) (hf : WB w T T2) : Rw2 hN ft nP w T2 := by
  unfold Rw2 at *
  rw [hf 5 w 0 (by omega) (by omega), hf 5 w 22 (by omega) (by omega), hf 5 w 38 (by omega) (by omega)]
  exact h
theorem w_find {hN ft who : Nat → Nat} {nP m : Nat} {w : Int} {T : Sg} (K : Int → Int → Int → Sg → Option (Int × Sg)) (hT : Rw2 hN ft nP w T) {O t p : Nat} (hO : O < 2 ^ nP) (hp : p < nP) (hm : m ≤ 9) (ht : t < 2 ^ m) (h52 : T 5 w 0 52 = (m : Int)) (hw : ∀ j : Nat, j < m → T 5 w 36 (j : Int) = (who j : Int) ∧ who j < 40) (h21 : T 21 w 0 (p : Int) = 0) : ∀ (c x n : Nat), x + c = 2 ^ m → c < n → 0 < x → (∀ z, z < x → ¬ Pok2 hN ft O p t z) → (∃ z, z < 2 ^ m ∧ Pok2 hN ft O p t z) → ∃ y T2, zf_W_byAll_31 w K n (O : Int) (t : Int) (p : Int) (x : Int) T = K (O : Int) ((t ||| y : Nat) : Int) ((p + 1 : Nat) : Int) T2 ∧ Pok2 hN ft O p t y ∧ y < 2 ^ m ∧ (∀ z, z < y → ¬ Pok2 hN ft O p t z) ∧ (∀ (g : Nat) (r k j : Int), ¬ (g = 21 ∧ r = w ∧ k = 0 ∧ j = p) → ¬ (g = 5 ∧ r = w ∧ k = 37 ∧ j = p) → T2 g r k j = T g r k j) ∧ T2 21 w 0 (p : Int) = ((ppl who y m : Nat) : Int) ∧ T2 5 w 37 (p : Int) = 1
  | _, _, 0, _, hn, _, _, _ => absurd hn (Nat.not_lt_zero _)
  | 0, x, n + 1, hx, hn, h0, hno, hex => by
    obtain ⟨z, z1, z2⟩ := hex
    exact absurd z2 (hno z (by omega))
  | c + 1, x, n + 1, hx, hn, h0, hno, hex => by
    have p9 : 2 ^ m ≤ 2 ^ 9 := Nat.pow_le_pow_right (by decide) hm
    have h8 := hT.2.1
    rw [zf_W_byAll_31, h52, shl1 _ (by omega), if_neg (by omega)]
    obtain ⟨v, k1, k2, k3⟩ := pf_isCrew hT (p := p) (x := x) (t := t) hp (by omega)
    rw [k1, zbd_s]
    have next : ¬ Pok2 hN ft O p t x → ∃ y T2, zf_W_byAll_134 w K (zf_W_byAll_31 w K n) (O : Int) (t : Int) (p : Int) (x : Int) T = K (O : Int) ((t ||| y : Nat) : Int) ((p + 1 : Nat) : Int) T2 ∧ Pok2 hN ft O p t y ∧ y < 2 ^ m ∧ (∀ z, z < y → ¬ Pok2 hN ft O p t z) ∧ (∀ (g : Nat) (r k j : Int), ¬ (g = 21 ∧ r = w ∧ k = 0 ∧ j = p) → ¬ (g = 5 ∧ r = w ∧ k = 37 ∧ j = p) → T2 g r k j = T g r k j) ∧ T2 21 w 0 (p : Int) = ((ppl who y m : Nat) : Int) ∧ T2 5 w 37 (p : Int) = 1 := by
      intro hx2
      unfold zf_W_byAll_134
      rw [zlt_v, zw1 (by omega)]
      exact w_find K hT hO hp hm ht h52 hw h21 c (x + 1) n (by omega) (by omega) (by omega) (fun z hz => by
        by_cases e : z = x
        · rw [e]; exact hx2
        · exact hno z (by omega)) hex
    by_cases hv : v = 0
    · rw [if_pos hv]
      exact next (fun q => by have := k3.mpr q.1; omega)
    · rw [if_neg hv, zor_n (by omega) (by omega), zw1 (by omega)]
      have hc : Crw 9 hN (Fw ft) p (tb t) (tb x) := k3.mp (by omega)
      obtain ⟨u, m1, m2, m3⟩ := pf_feasible hT (set := O) (p := p + 1) (t := t ||| x) hO (by omega) (or_512 (by omega) (by omega))
      rw [m1, zbd_s]
      by_cases hu : u = 0
      · rw [if_pos hu]
        exact next (fun q => by have := m3.mpr q.2; omega)
      · rw [if_neg hu, zlt_v, zck_b (by omega), zlt_v]
        obtain ⟨T2, j1, j2, j3⟩ := w_note (who := who) (O := O) (t := t ||| x) K hm (show x < 512 by omega) (show p < 8 by omega) m 0 4096 (zu T 5 w 37 (p : Int) 1) (by omega) (by omega) (by rw [zu_ne (by omega)]; exact h52) (fun j hj => by rw [zu_ne (by omega)]; exact hw j hj) (by rw [zu_ne (by omega)]; exact h21)
        refine ⟨x, T2, by rw [← j1]; rfl, ⟨hc, m3.mp (by omega)⟩, by omega, hno, fun g r k j a b => ?_, j3, ?_⟩
        · rw [j2 g r k j a]
          exact if_neg b
        · rw [j2 5 w 37 p (by omega), zu_at]
theorem ppl_0 (who : Nat → Nat) : ∀ m, ppl who 0 m = 0
  | 0 => rfl
  | m + 1 => by
    rw [ppl, ppl_0 who m, Nat.zero_testBit]
    simp
theorem chn_none {hN fw : Nat → Nat} {O : Nat → Bool} {s : Nat → Nat} : ∀ (c i t : Nat), (∀ q, i ≤ q → O q = false) → (∀ q, i ≤ q → s q = 0) → Chn hN fw O s c i t
  | 0, _, _, _, _ => trivial
  | c + 1, i, t, h, h2 => by
    refine ⟨?_, chn_none c (i + 1) _ (fun q hq => h q (by omega)) (fun q hq => h2 q (by omega))⟩
    unfold Pick
    rw [h i (Nat.le_refl _), if_neg (by decide)]
    exact h2 i (Nat.le_refl _)
theorem w_byall {hN ft fw who : Nat → Nat} {nP m : Nat} {op : Nat → Bool} {w : Int} {O : Nat} (hf : FwC fw ft op nP) (hh : HnC hN nP) (hO : O < 2 ^ nP) (hop : ∀ q, tb O q = true → op q = true) (hm : m ≤ 9) (hft : ∀ q, q < nP → ft q < 2 ^ m) : ∀ (c p n t : Nat) (T : Sg), p + c = nP → c < n → t < 2 ^ m → Rw2 hN ft nP w T → T 5 w 0 52 = (m : Int) → (∀ j : Nat, j < m → T 5 w 36 (j : Int) = (who j : Int) ∧ who j < 40) → (∀ q : Nat, p ≤ q → q < 8 → T 21 w 0 (q : Int) = 0 ∧ T 5 w 37 (q : Int) = 0) → Hal 9 8 hN (Fw ft) (tb O) p (tb t) → ∃ T2, ∃ s : Nat → Nat, zf_W_byAll_9 w n (O : Int) (t : Int) (p : Int) T = some (0, T2) ∧ WB w T T2 ∧ Chn hN fw (tb O) s (8 - p) p t ∧ (∀ q : Nat, p ≤ q → q < 8 → s q < 512 ∧ T2 21 w 0 (q : Int) = ((ppl who (s q) m : Nat) : Int) ∧ T2 5 w 37 (q : Int) = (if tb O q = true then 1 else 0)) ∧ ∀ q : Int, q < p → T2 21 w 0 q = T 21 w 0 q ∧ T2 5 w 37 q = T 5 w 37 q
  | _, _, 0, _, _, _, hn, _, _, _, _, _, _ => absurd hn (Nat.not_lt_zero _)
  | 0, p, n + 1, t, T, hp, hn, ht, hT, h52, hw, h21, H => by
    have no : ∀ q, p ≤ q → tb O q = false := fun q hq => tb_hi hO (by omega)
    rw [zf_W_byAll_9, hT.1, if_pos (by omega)]
    refine ⟨T, fun _ => 0, rfl, fun _ _ _ _ _ => rfl, chn_none _ _ _ no (fun _ _ => rfl), fun q a b => ⟨(by show 0 < 512; decide), ?_, ?_⟩, fun _ _ => ⟨rfl, rfl⟩⟩
    · rw [ppl_0, (h21 q a b).1]; rfl
    · rw [no q a, if_neg (by decide), (h21 q a b).2]
  | c + 1, p, n + 1, t, T, hp, hn, ht, hT, h52, hw, h21, H => by
    have h8 := hT.2.1
    have p8 : 2 ^ nP ≤ 2 ^ 8 := Nat.pow_le_pow_right (by decide) h8
    have p9 : 2 ^ m ≤ 2 ^ 9 := Nat.pow_le_pow_right (by decide) hm
    rw [zf_W_byAll_9, hT.1, if_neg (by omega), zbit_n (by omega) (by omega)]
    unfold zf_W_byAll_140
    rw [zlt_v, zw1 (by omega)]
    cases hb : O.testBit p with
    | false =>
      rw [if_neg (show ¬ (false = true) by decide), if_pos z00]
      have hb' : tb O p = false := hb
      obtain ⟨T2, s, k1, k2, k3, k4, k5⟩ := w_byall (fw := fw) (who := who) hf hh hO hop hm hft c (p + 1) n t T (by omega) (by omega) ht hT h52 hw (fun q a b => h21 q (by omega) b) ((hal_skip hb').mp H)
      refine ⟨T2, fun q => if q = p then 0 else s q, k1, k2, ?_, fun q a b => ?_, fun q hq => k5 q (by omega)⟩
      · rw [show 8 - p = (8 - (p + 1)) + 1 by omega]
        refine ⟨?_, ?_⟩
        · unfold Pick
          rw [hb', if_neg (by decide)]
          simp
        · simp only [if_true]
          rw [Nat.or_zero]
          exact k3.congr _ _ _ (fun q hq => by rw [if_neg (by omega)])
      · by_cases e : q = p
        · subst e
          simp only [if_true]
          refine ⟨by decide, ?_, ?_⟩
          · rw [(k5 q (by omega)).1, (h21 q a b).1, ppl_0]; rfl
          · rw [(k5 q (by omega)).2, (h21 q a b).2, hb', if_neg (by decide)]
        · simp only [if_neg e]
          exact k4 q (by omega) b
    | true =>
      rw [if_pos (show true = true from rfl), if_neg n10]
      have hb' : tb O p = true := hb
      have hpO := hop p hb'
      have hpP : p < nP := by omega
      have efw : fw p = ft p := (hf p (by omega)).1 ⟨hpP, hpO⟩
      -- the class asks the same of a crew
      have iff : ∀ z, Pok2 hN ft O p t z ↔ Pok hN fw (tb O) p t z := by
        intro z
        unfold Pok2 Pok
        have e1 : Crw 9 hN (Fw ft) p (tb t) (tb z) ↔ Crw 9 hN (Fw fw) p (tb t) (tb z) := by
          unfold Crw Fw
          rw [efw]
        have e2 : ∀ {t2 : Nat → Bool}, Hal 9 8 hN (Fw ft) (tb O) (p + 1) t2 ↔ Hal 9 8 hN (Fw fw) (tb O) (p + 1) t2 := by
          intro t2
          have eq : ∀ q, tb O q = true → fw q = ft q := fun q hq => by
            have : q < nP := Nat.lt_of_not_le (fun z => by rw [tb_hi hO z] at hq; cases hq)
            exact (hf q (by omega)).1 ⟨this, hop q hq⟩
          constructor
          · intro h
            refine h.congr (fun _ z _ => z) (fun q k hq _ _ => ?_)
            unfold Fw
            rw [eq q hq]
          · intro h
            refine h.congr (fun _ z _ => z) (fun q k hq _ _ => ?_)
            unfold Fw
            rw [eq q hq]
        rw [e1, e2]
      have ex : ∃ z, z < 2 ^ m ∧ Pok2 hN ft O p t z := by
        obtain ⟨s, s1, s2⟩ := hal_step (by omega) hb' H
        have es := crw_mask s1
        have hf512 : ft p < 512 := by have := hft p hpP; omega
        have c1 := (crw_iff (hN := hN) (fw := ft) (i := p) (t := t) (z := mks 9 s) hf512).mp (by rw [← es]; exact s1)
        refine ⟨mks 9 s, Nat.lt_of_le_of_lt (Nat.le_trans c1.1.le (nd_le _ _)) (hft p hpP), by rw [← es]; exact s1, ?_⟩
        rw [tb_or, ← es]
        exact s2
      have no0 : ∀ z, z < 1 → ¬ Pok2 hN ft O p t z := by
        intro z hz h
        have : z = 0 := by omega
        subst this
        have h1 := h.1.2
        rw [cnt_tb0] at h1
        have := (hh p).1 hpP
        omega
      obtain ⟨y, T1, m1, m2, m3, m4, m5, m6, m7⟩ := w_find (who := who) (zf_W_byAll_9 w n) hT hO hpP hm ht h52 hw (h21 p (Nat.le_refl _) (by omega)).1 (2 ^ m - 1) 1 4096 (by have : 1 ≤ 2 ^ m := Nat.pow_pos (by decide); omega) (by omega) (by decide) no0 ex
      rw [show ((1 : Nat) : Int) = 1 from rfl] at m1
      rw [m1]
      have wT : WB w T T1 := fun g r k a b => by
        funext j
        exact m5 g r k j (by omega) (by omega)
      obtain ⟨T2, s, k1, k2, k3, k4, k5⟩ := w_byall (fw := fw) (who := who) hf hh hO hop hm hft c (p + 1) n (t ||| y) T1 (by omega) (by omega) (Nat.or_lt_two_pow ht m3) (hT.keep wT) (by rw [wT 5 w 0 (by omega) (by omega)]; exact h52) (fun j hj => by rw [wT 5 w 36 (by omega) (by omega)]; exact hw j hj) (fun q a b => by
        rw [m5 21 w 0 q (by omega) (by omega), m5 5 w 37 q (by omega) (by omega)]
        exact h21 q (by omega) b) m2.2
      refine ⟨T2, fun q => if q = p then y else s q, k1, fun g r k a b => (k2 g r k a b).trans (wT g r k a b), ?_, fun q a b => ?_, fun q hq => ?_⟩
      · rw [show 8 - p = (8 - (p + 1)) + 1 by omega]
        refine ⟨?_, ?_⟩
        · unfold Pick
          rw [hb', if_pos rfl]
          simp only [if_true]
          exact ⟨(iff y).mp m2, by omega, fun z hz h => m4 z hz ((iff z).mpr h)⟩
        · simp only [if_true]
          exact k3.congr _ _ _ (fun q hq => by rw [if_neg (by omega)])
      · by_cases e : q = p
        · subst e
          simp only [if_true]
          refine ⟨by omega, ?_, ?_⟩
          · rw [(k5 q (by omega)).1, m6]
          · rw [(k5 q (by omega)).2, m7, hb', if_pos rfl]
        · simp only [if_neg e]
          exact k4 q (by omega) b
      · rw [(k5 q (by omega)).1, (k5 q (by omega)).2, m5 21 w 0 q (by omega) (by omega), m5 5 w 37 q (by omega) (by omega)]
        exact ⟨rfl, rfl⟩
theorem pf_byAll {hN ft fw who : Nat → Nat} {nP m : Nat} {op : Nat → Bool} {w : Int} {T : Sg} (hT : Rw2 hN ft nP w T) (ho : Opn op nP w T) (hf : FwC fw ft op nP) (hh : HnC hN nP) (hm : m ≤ 9) (hft : ∀ q, q < nP → ft q < 2 ^ m) (h52 : T 5 w 0 52 = (m : Int)) (hw : ∀ j : Nat, j < m → T 5 w 36 (j : Int) = (who j : Int) ∧ who j < 40) (h21 : ∀ q : Nat, q < 8 → T 21 w 0 (q : Int) = 0 ∧ T 5 w 37 (q : Int) = 0) : ∃ T2, ∃ (O : Nat → Bool) (s : Nat → Nat), zf_W_byAll w T = some (0, T2) ∧ WB w T T2 ∧ Best hN (Fw fw) O ∧ Chn hN fw O s 8 0 0 ∧ (∀ q : Nat, q < 8 → s q < 512 ∧ T2 21 w 0 (q : Int) = ((ppl who (s q) m : Nat) : Int) ∧ T2 5 w 37 (q : Int) = (if O q = true then 1 else 0)) := by
  obtain ⟨O, k1, k2, k3, k4⟩ := pf_bestSet hT ho hf hh
  unfold zf_W_byAll
  rw [k1, zbd_s]
  have e0 : tb 0 = fun _ => false := by
    funext k
    exact Nat.zero_testBit k
  have H : Hal 9 8 hN (Fw ft) (tb O) 0 (tb 0) := by
    rw [e0]
    refine k4.2.1.congr (fun _ z _ => z) (fun q k hq _ _ => ?_)
    have : q < nP := Nat.lt_of_not_le (fun z => by rw [tb_hi k2 z] at hq; cases hq)
    unfold Fw
    have h8 := hT.2.1
    rw [((hf q (by omega)).1 ⟨this, k3 q hq⟩)]
  obtain ⟨T2, s, m1, m2, m3, m4, -⟩ := w_byall (fw := fw) (who := who) hf hh k2 k3 hm hft nP 0 4096 0 T (by omega) (by have := hT.2.1; omega) (Nat.pow_pos (by decide)) hT h52 hw (fun q _ b => h21 q b) H
  exact ⟨T2, tb O, s, m1, m2, k4, m3, fun q hq => m4 q (Nat.zero_le _) hq⟩
