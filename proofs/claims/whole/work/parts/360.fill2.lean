/-! ===== the filling, whole ===== -/
/-- how many hands a post wants, as the class notes it -/
def hnS (S : Sg) (r : Int) (i : Nat) : Nat := if (i : Int) < S 0 r 26 0 then (S 0 r 28 (i : Int)).toNat else 0
theorem c_start {S0 : Sg} {r : Int} (hn8 : 0 ≤ S0 0 r 26 0 ∧ S0 0 r 26 0 ≤ 8) (hh : ∀ i : Nat, (i : Int) < S0 0 r 26 0 → 1 ≤ S0 0 r 28 (i : Int) ∧ S0 0 r 28 (i : Int) ≤ 3) : ∀ (c i n : Nat) (S : Sg), i + c = 8 → c < n → S 0 = S0 0 → (∀ q : Nat, q < i → S 20 0 1 (q : Int) = 0 ∧ S 3 0 11 (q : Int) = (hnS S0 r q : Int)) → ∃ S2, zf_C_ask_8 r n (i : Int) S = (zbd (zf_Q_wantedSkills r S2) fun a2 S3 => zf_C_ask_68 r 4096 a2 0 0 S3) ∧ (∀ (g : Nat) (r k : Int), ¬ (g = 20 ∧ r = 0 ∧ k = 1) → ¬ (g = 3 ∧ r = 0 ∧ k = 11) → S2 g r k = S g r k) ∧ (∀ q : Nat, q < 8 → S2 20 0 1 (q : Int) = 0 ∧ S2 3 0 11 (q : Int) = (hnS S0 r q : Int))
  | _, _, 0, _, _, hn, _, _ => absurd hn (Nat.not_lt_zero _)
  | 0, i, n + 1, S, hi, hn, h0, h => by
    rw [zf_C_ask_8, if_pos (by omega)]
    exact ⟨S, rfl, fun _ _ _ _ _ => rfl, fun q hq => h q (by omega)⟩
  | c + 1, i, n + 1, S, hi, hn, h0, h => by
    rw [zf_C_ask_8, if_neg (by omega), zck_b (by omega), zlt_v]
    unfold zf_C_ask_49
    have go : ∀ y : Int, y = (hnS S0 r i : Int) → ∃ S2, (zck (0 ≤ (i : Int) ∧ (i : Int) < 8) <| zlt (zu (zu S 20 0 1 (i : Int) 0) 3 0 11 (i : Int) y) fun S2 => zlt (zw ((i : Int) + 1)) fun v3 => zf_C_ask_8 r n v3 S2) = (zbd (zf_Q_wantedSkills r S2) fun a2 S3 => zf_C_ask_68 r 4096 a2 0 0 S3) ∧ (∀ (g : Nat) (r k : Int), ¬ (g = 20 ∧ r = 0 ∧ k = 1) → ¬ (g = 3 ∧ r = 0 ∧ k = 11) → S2 g r k = S g r k) ∧ (∀ q : Nat, q < 8 → S2 20 0 1 (q : Int) = 0 ∧ S2 3 0 11 (q : Int) = (hnS S0 r q : Int)) := by
      intro y hy
      rw [zck_b (by omega), zlt_v, zlt_v, zw1 (by omega)]
      obtain ⟨S2, k1, k2, k3⟩ := c_start hn8 hh c (i + 1) n (zu (zu S 20 0 1 (i : Int) 0) 3 0 11 (i : Int) y) (by omega) (by omega) (by funext r' k; rw [zu_ne (by omega), zu_ne (by omega), h0]) (fun q hq => by
        by_cases e : q = i
        · subst e
          exact ⟨by rw [zu_ne (by omega), zu_at], by rw [zu_at]; exact hy⟩
        · rw [zu_ne (by omega), zu_pl (by omega), zu_pl (by omega), zu_ne (by omega)]
          exact h q (by omega))
      exact ⟨S2, k1, fun g r' k a b => by rw [k2 g r' k a b, zu_ne b, zu_ne a], k3⟩
    have e26 : zu S 20 0 1 (i : Int) 0 0 r 26 0 = S0 0 r 26 0 := by rw [zu_ne (by omega), h0]
    have e28 : zu S 20 0 1 (i : Int) 0 0 r 28 (i : Int) = S0 0 r 28 (i : Int) := by rw [zu_ne (by omega), h0]
    rw [e26]
    by_cases hq : S0 0 r 26 0 ≤ (i : Int)
    · rw [if_pos hq]
      refine go 0 ?_
      unfold hnS
      rw [if_neg (by omega)]
      rfl
    · rw [if_neg hq, e28]
      refine go _ ?_
      have := hh i (by omega)
      unfold hnS
      rw [if_pos (by omega)]
      omega
/-- both sides fill alike -/
theorem tw_fill {S T : Sg} {r w : Int} (h : Rw S T r w) (hcr : Rcr S) : ∃ (crew : Nat → Nat) (S2 T2 : Sg), zf_C_fill r S = some (((nfl crew 8 : Nat) : Int), S2) ∧ zf_W_fill w T = some (((nfl crew 8 : Nat) : Int), T2) ∧ CFr S S2 ∧ WFr w T T2 ∧ Rcr S2 ∧ (∀ i : Nat, i < 8 → crew i < 1099511627776 ∧ S2 20 0 0 (i : Int) = (crew i : Int) ∧ T2 21 w 0 (i : Int) = (crew i : Int) ∧ T2 5 w 37 (i : Int) = (if crew i = 0 then 0 else 1)) := by
  obtain ⟨hR, hL, hC⟩ := id h
  have hpp := hR.2.2.1
  have hpo := hR.2.2.2.1
  have hn40 := hpp.2.1
  have hn8 := hpo.2.1
  have hh3 : ∀ i : Nat, (i : Int) < S 0 r 26 0 → 1 ≤ S 0 r 28 (i : Int) ∧ S 0 r 28 (i : Int) ≤ 3 := fun i hi => (hpo.2.2 i (by omega) hi).2.2.2.2.2.1
  obtain ⟨nP, hnP⟩ : ∃ nP : Nat, S 0 r 26 0 = (nP : Int) := ⟨(S 0 r 26 0).toNat, by omega⟩
  have hnP8 : nP ≤ 8 := by omega
  -- the class asks
  obtain ⟨A, a1, a2, a3⟩ := c_start (S0 := S) (r := r) hn8 hh3 8 0 4096 S (by decide) (by decide) rfl (fun q hq => absurd hq (Nat.not_lt_zero _))
  have cA : CFr S A := fun g r' k x y _ => a2 g r' k (by omega) (by omega)
  have A0 : A 0 = S 0 := cA.g (by decide) (by decide) (by decide)
  have hA : Rw A T r w := h.keep2 cA (WFr.refl w T)
  obtain ⟨W, w1, w2, w3⟩ := pf_wanted hA.1.2.2.2.1
  rw [A0] at w3
  -- the reference begins
  unfold zf_W_fill zf_W_gather
  rw [zlt_v]
  have wT0 : WFr w T (zu T 5 w 0 52 0) := fun g r' k j x _ => if_neg (by omega)
  have hA2 : Rw A (zu T 5 w 0 52 0) r w := hA.keep2 (CFr.refl A) wT0
  obtain ⟨al, B, U, b1, b2', b3, b4, b5, b6, b7, b8, b9, b10⟩ := pl_ask (S0 := S) (r := r) (w := w) w2 w3 (S 0 r 6 0).toNat 0 4096 4096 0 A (zu T 5 w 0 52 0) (by omega) (by omega) (by omega) A0 hA2 (by decide) (fun j hj => by
    rw [(a3 j hj).1]
    unfold cnC
    rw [mks_none (fun k _ => by unfold tb; rw [Nat.zero_testBit]; rfl)]
    rfl) (fun q hq => by unfold tb at hq; rw [Nat.zero_testBit] at hq; cases hq) (by rw [zu_at]; rfl) (fun q hq => absurd hq (Nat.not_lt_zero _))
  rw [show ((0 : Nat) : Int) = 0 from rfl] at b1 b2' a1
  rw [b2']
  have cB : CFr S B := fun g r' k x y z => (b3 g r' k (by omega) (by omega)).trans (cA g r' k x y z)
  have wU : WFr w T U := fun g r' k j x y => (b4 g r' k j (by omega)).trans (wT0 g r' k j x y)
  have hB : Rw B U r w := h.keep2 cB wU
  have Bhn : ∀ q : Nat, q < 8 → B 3 0 11 (q : Int) = (hnS S r q : Int) := fun q hq => by
    rw [b3 3 0 11 (by omega) (by omega)]
    exact (a3 q hq).2
  -- who they are
  obtain ⟨who, hE⟩ : ∃ who, Enm al (cnt 40 (tb al)) who := by
    refine ⟨fun k => (U 5 w 36 (k : Int)).toNat, rfl, fun p hp hp2 => ?_⟩
    show (U 5 w 36 ((cnt p (tb al) : Nat) : Int)).toNat = p
    rw [b10 p hp hp2]
    rfl
  generalize hm : cnt 40 (tb al) = m at hE b9
  have hm40 : m ≤ 40 := by rw [← hm]; exact cnt_le _ _
  have U36 : ∀ j : Nat, j < m → U 5 w 36 (j : Int) = (who j : Int) := by
    intro j hj
    obtain ⟨x, y, z⟩ := hE.get hj
    have := b10 (who j) x y
    rw [z] at this
    exact this
  have whoN : ∀ j, j < m → (who j : Int) < S 0 r 6 0 := fun j hj => b6 _ (hE.get hj).2.1
  -- who fits
  have hbk : Bk S S r r := Bk.eq rfl rfl rfl
  have hRU : Ri S U r w := hR.like hbk wU.wk
  obtain ⟨V, v1, v2, v3⟩ := w_fits_out (S := S) (T0 := T) (r := r) (w := w) whoN hm40 nP 0 4096 U (by omega) (by omega) hRU b9 U36 (fun q hq => absurd hq (Nat.not_lt_zero _))
  rw [show ((0 : Nat) : Int) = 0 from rfl] at v1
  have v1' : zf_W_findFits w U = some (0, V) := v1
  rw [v1', zbd_s, zbd_s]
  obtain ⟨X, x1, x2, x3⟩ := w_empty (w := w) 8 0 4096 V (by decide) (by decide) (fun q hq => absurd hq (Nat.not_lt_zero _))
  rw [show ((0 : Nat) : Int) = 0 from rfl] at x1
  rw [x1]
  have wX : WFr w T X := fun g r' k j x y => by
    rw [x2 g r' k (by omega) (by omega), v2 g r' k (by omega)]
    exact wU g r' k j x y
  have hRX : Ri S X r w := hR.like hbk wX.wk
  have X52 : X 5 w 0 52 = (m : Int) := by rw [x2 5 w 0 (by omega) (by omega), v2 5 w 0 (by omega)]; exact b9
  have X36 : ∀ j : Nat, j < m → X 5 w 36 (j : Int) = (who j : Int) := fun j hj => by rw [x2 5 w 36 (by omega) (by omega), v2 5 w 36 (by omega)]; exact U36 j hj
  have X38 : ∀ q : Nat, q < nP → X 5 w 38 (q : Int) = ((mks (min m 31) (fun j => ((S 0 r 10 (who j : Int)).toNat).testBit ((S 0 r 27 (q : Int)).toNat)) : Nat) : Int) := fun q hq => by rw [x2 5 w 38 (by omega) (by omega)]; exact v3 q (by omega)
  have X25 : X 5 w 0 25 = (nP : Int) := by rw [hRX.2.2.2.1.1, hnP]
  -- what the crews must be
  have hcan : ∀ i, cnC S r al i < 1099511627776 := fun i => mks_lt _ 40
  have eu : uni (fun i => cnC S r al i) = al := by
    refine tb_inj (n := 40) (uni_lt (fun i _ => hcan i)) b5 (fun k hk => ?_)
    rw [Bool.eq_iff_iff, uni_bit]
    constructor
    · rintro ⟨i, -, e⟩
      have e2 : tb (cnC S r al i) k = _ := mks_bit _ 40 k hk
      rw [e2, Bool.and_eq_true] at e
      exact e.1
    · intro e
      obtain ⟨j, hj⟩ := b8 k e
      have hj8 := (fitb_iff.mp hj).1
      refine ⟨j, by omega, ?_⟩
      have e2 : tb (cnC S r al j) k = _ := mks_bit _ 40 k hk
      rw [e2, e, hj]
      rfl
  have can0 : ∀ i, 8 ≤ i → cnC S r al i = 0 ∧ hnS S r i = 0 := by
    intro i hi
    constructor
    · unfold cnC
      refine mks_none (fun k _ => ?_)
      have : fitb S r k i = false := by
        unfold fitb
        rw [decide_eq_false (by omega), Bool.false_and]
      rw [this, Bool.and_false]
    · unfold hnS
      rw [if_neg (by omega)]
  have hHn : HnC (hnS S r) nP := by
    intro q
    unfold hnS
    constructor
    · intro hq
      have := hh3 q (by omega)
      rw [if_pos (by omega)]
      omega
    · intro hq
      rw [if_neg (by omega)]
  -- the reference's crews are such
  have ref : ∃ (crew : Nat → Nat) (Y : Sg), (if 9 < X 5 w 0 52 then (zbd (zf_W_oneByOne w X) fun _ S4 => zf_W_fill_52 w S4) else (zbd (zf_W_byAll w X) fun _ S6 => zf_W_fill_52 w S6)) = some (((nfl crew 8 : Nat) : Int), Y) ∧ WB w X Y ∧ Crs (fun i => cnC S r al i) (hnS S r) crew ∧ (∀ i : Nat, i < 8 → crew i < 1099511627776 ∧ Y 21 w 0 (i : Int) = (crew i : Int) ∧ Y 5 w 37 (i : Int) = (if crew i = 0 then 0 else 1)) := by
    have opI : ∀ q : Nat, q < nP → (X 5 w 24 (q : Int) = 1 ↔ (decide (S 0 r 30 (q : Int) = 1)) = true) := by
      intro q hq
      rw [decide_eq_true_iff, (hRX.2.2.2.1.2.2 q (by omega) (by omega)).2.2.2.1]
    have x22 : ∀ q : Nat, q < nP → X 5 w 22 (q : Int) = (hnS S r q : Int) := by
      intro q hq
      have := hh3 q (by omega)
      have e22 : X 5 w 22 (q : Int) = S 0 r 28 (q : Int) := (hRX.2.2.2.1.2.2 q (by omega) (by omega)).2.1
      rw [e22]
      unfold hnS
      rw [if_pos (by omega)]
      omega
    have fin : ∀ (crew : Nat → Nat) (Y : Sg), WB w X Y → (∀ i : Nat, i < 8 → Y 5 w 37 (i : Int) = (if crew i = 0 then 0 else 1)) → (∀ i : Nat, nP ≤ i → i < 8 → crew i = 0) → zf_W_fill_52 w Y = some (((nfl crew 8 : Nat) : Int), Y) := by
      intro crew Y wY y37 y0
      have := w_count (crew := crew) (w := w) (T := Y) (nP := nP) (by rw [wY 5 w 0 (by omega) (by omega)]; exact X25) hnP8 y37 nP 0 4096 (by omega) (by omega)
      have e8 : nfl crew 8 = nfl crew nP := cnt_up hnP8 (fun k a b => by rw [y0 k a b]; rfl)
      unfold zf_W_fill_52
      rw [e8]
      exact this
    by_cases h9 : m ≤ 9
    · rw [if_neg (by omega)]
      -- few
      have ft : Rw2 (hnS S r) (fun q => mks m (fun j => ((S 0 r 10 (who j : Int)).toNat).testBit ((S 0 r 27 (q : Int)).toNat))) nP w X := by
        refine ⟨X25, hnP8, fun q hq => ⟨x22 q hq, ?_, ?_, ((hHn q).1 hq).1, ((hHn q).1 hq).2⟩⟩
        · have := X38 q hq
          rw [show min m 31 = m by omega] at this
          exact this
        · exact Nat.lt_of_lt_of_le (mks_lt _ m) (Nat.pow_le_pow_right (n := 2) (by decide) h9)
      have hfw : FwC (fun i => mks m (fun k => tb (cnC S r al i) (who k))) (fun q => mks m (fun j => ((S 0 r 10 (who j : Int)).toNat).testBit ((S 0 r 27 (q : Int)).toNat))) (fun q => decide (S 0 r 30 (q : Int) = 1)) nP := by
        intro q hq
        constructor
        · rintro ⟨h1, h2⟩
          refine mks_congr (fun k hk => ?_)
          obtain ⟨y1, y2, y3⟩ := hE.get hk
          have e2 : tb (cnC S r al q) (who k) = _ := mks_bit _ 40 (who k) y1
          rw [e2, y2, Bool.true_and]
          unfold fitb
          dsimp only at h2
          rw [decide_eq_true (show ((q : Nat) : Int) < S 0 r 26 0 by omega), h2]
          rfl
        · intro h1
          refine mks_none (fun k hk => ?_)
          obtain ⟨y1, y2, y3⟩ := hE.get hk
          have e2 : tb (cnC S r al q) (who k) = _ := mks_bit _ 40 (who k) y1
          rw [e2, y2, Bool.true_and, Bool.eq_false_iff]
          intro z
          rw [fitb_iff] at z
          exact h1 ⟨by omega, decide_eq_true z.2.1⟩
      obtain ⟨Y, O, s, k1, k2, k3, k4, k5⟩ := pf_byAll (fw := fun i => mks m (fun k => tb (cnC S r al i) (who k))) (who := who) (m := m) ft opI hfw hHn h9 (fun q _ => mks_lt _ m) X52 (fun j hj => ⟨X36 j hj, (hE.get hj).1⟩) x3
      rw [k1, zbd_s]
      have few : Few (fun i => cnC S r al i) (hnS S r) al (fun q => ppl who (s q) m) := by
        refine ⟨who, O, s, ?_, ?_, ?_, fun q _ => ?_⟩
        · rw [hm]; exact hE
        · rw [hm]; exact k3
        · rw [hm]; exact k4
        · rw [hm]
      have wl : ∀ k, k < m → who k < 40 := fun k hk => (hE.get hk).1
      -- a post is filled as its crew isn't none
      have nz : ∀ q : Nat, q < 8 → (O q = true ↔ ppl who (s q) m ≠ 0) := by
        intro q hq
        have pick : Pick (hnS S r) (fun i => mks m (fun k => tb (cnC S r al i) (who k))) O q 0 (s q) ∨ ∃ t, Pick (hnS S r) (fun i => mks m (fun k => tb (cnC S r al i) (who k))) O q t (s q) := by
          have : ∀ (c i t : Nat), Chn (hnS S r) (fun i => mks m (fun k => tb (cnC S r al i) (who k))) O s c i t → i ≤ q → q < i + c → ∃ t, Pick (hnS S r) (fun i => mks m (fun k => tb (cnC S r al i) (who k))) O q t (s q) := by
            intro c
            induction c with
            | zero => intro i t _ a b; omega
            | succ c ih =>
              intro i t hc a b
              by_cases e : q = i
              · subst e; exact ⟨t, hc.1⟩
              · exact ih (i + 1) _ hc.2 (by omega) (by omega)
          exact Or.inr (this 8 0 0 k4 (Nat.zero_le _) (by omega))
        obtain ⟨t, pick⟩ : ∃ t, Pick (hnS S r) (fun i => mks m (fun k => tb (cnC S r al i) (who k))) O q t (s q) := by
          rcases pick with z | z
          · exact ⟨0, z⟩
          · exact z
        unfold Pick at pick
        cases e : O q with
        | false =>
          rw [e, if_neg (by decide)] at pick
          rw [pick, ppl_0]
          constructor
          · intro z; cases z
          · intro z; exact absurd rfl z
        | true =>
          rw [e, if_pos rfl] at pick
          refine ⟨fun _ => ?_, fun _ => rfl⟩
          have hq0 := (k3.1 q e).2.2
          have hcn := pick.1.1.2
          intro z
          have hle := pok_lt (Nat.lt_of_lt_of_le (mks_lt _ m) (show 2 ^ m ≤ 512 from Nat.pow_le_pow_right (n := 2) (by decide) h9)) pick.1
          -- somebody is in it
          have ex : ∃ k, k < 9 ∧ tb (s q) k = true := by
            refine Classical.byContradiction (fun no => ?_)
            have : cnt 9 (tb (s q)) = 0 := cnt_zero (fun k hk => by
              cases e2 : tb (s q) k with
              | false => rfl
              | true => exact absurd ⟨k, hk, e2⟩ no)
            omega
          obtain ⟨k, hk9, hk⟩ := ex
          have hkm : k < m := by
            refine Nat.lt_of_not_le (fun y => ?_)
            have h1 := hle.1.bit hk
            rw [nd_bit, Bool.and_eq_true] at h1
            have h2 : tb (mks m (fun k => tb (cnC S r al q) (who k))) k = false := tb_hi (mks_lt _ m) y
            have h3 : (mks m (fun k => tb (cnC S r al q) (who k))).testBit k = false := h2
            rw [h3] at h1
            exact absurd h1.1 (by decide)
          have mem : ∀ n, k < n → (ppl who (s q) n).testBit (who k) = true := by
            intro n
            induction n with
            | zero => intro y; omega
            | succ n ih =>
              intro y
              rw [ppl, Nat.testBit_or]
              by_cases e3 : k = n
              · subst e3
                have : (s q).testBit k = true := hk
                rw [this, if_pos rfl, Nat.testBit_two_pow, decide_eq_true rfl, Bool.or_true]
              · rw [ih (by omega)]; rfl
          have := mem m hkm
          rw [z, Nat.zero_testBit] at this
          cases this
      have y37 : ∀ i : Nat, i < 8 → Y 5 w 37 (i : Int) = (if ppl who (s i) m = 0 then 0 else 1) := by
        intro i hi
        rw [(k5 i hi).2.2]
        by_cases e : O i = true
        · rw [if_pos e, if_neg ((nz i hi).mp e)]
        · rw [if_neg e]
          by_cases z : ppl who (s i) m = 0
          · rw [if_pos z]
          · exact absurd ((nz i hi).mpr z) e
      refine ⟨fun q => ppl who (s q) m, Y, ?_, k2, ⟨fun _ => by rw [eu]; exact few, fun z => by rw [eu, hm] at z; omega⟩, fun i hi => ⟨ppl_lt wl, (k5 i hi).2.1, y37 i hi⟩⟩
      refine fin (fun q => ppl who (s q) m) Y k2 y37 (fun i a b => ?_)
      have : O i = false := by
        cases e : O i with
        | false => rfl
        | true =>
          have := (k3.1 i e).2.2
          have := (hHn i).2 a
          omega
      by_cases z : ppl who (s i) m = 0
      · exact z
      · have := (nz i b).mpr z
        simp_all
    · rw [if_pos (by omega)]
      -- in turn
      have r3 : Rw3 (hnS S r) (fun i => cnC S r al i) who al m nP (fun q => decide (S 0 r 30 (q : Int) = 1)) w X := by
        refine ⟨X25, hnP8, X52, hE, b5, X36, fun q hq => ⟨x22 q hq, ((hHn q).1 hq).1, ((hHn q).1 hq).2, opI q hq, fun ho j hj => ?_, fun ho j hj => ?_, fun ho => ?_⟩⟩
        · obtain ⟨y1, y2, y3⟩ := hE.get hj
          rw [pf_W_fits hRX (whoN j hj) (by omega)]
          have e2 : tb (cnC S r al q) (who j) = _ := mks_bit _ 40 (who j) y1
          rw [e2, y2, Bool.true_and]
          unfold fitb
          dsimp only at ho
          rw [decide_eq_true (show ((q : Nat) : Int) < S 0 r 26 0 by omega), ho]
          rfl
        · by_cases hj40 : j < 40
          · have e2 : tb (cnC S r al q) j = _ := mks_bit _ 40 j hj40
            rw [e2, Bool.and_eq_true] at hj
            exact hj.1
          · rw [tb_hi (n := 40) (hcan q) (by omega)] at hj
            cases hj
        · unfold cnC
          refine mks_none (fun k _ => ?_)
          rw [Bool.and_eq_false_iff]
          right
          rw [Bool.eq_false_iff]
          intro z
          rw [fitb_iff] at z
          dsimp only at ho
          rw [decide_eq_true z.2.1] at ho
          cases ho
      obtain ⟨Y, crew, k1, k2, k3, k4, -⟩ := w_turn (w := w) hHn (fun q a b => by
        show cnC S r al q = 0
        unfold cnC
        refine mks_none (fun k _ => ?_)
        have : fitb S r k q = false := by
          unfold fitb
          rw [decide_eq_false (by omega), Bool.false_and]
        rw [this, Bool.and_false]) (fun i _ => hcan i) nP 0 4096 0 X (by omega) (by omega) (by decide) r3 (fun q _ b => x3 q b)
      have k1' : zf_W_oneByOne w X = some (0, Y) := k1
      rw [k1', zbd_s]
      have y0 : ∀ i : Nat, nP ≤ i → i < 8 → crew i = 0 := by
        intro i a b
        have : ∀ (c j t : Nat), Trn (fun i => cnC S r al i) (hnS S r) crew c j t → j ≤ i → i < j + c → crew i = 0 := by
          intro c
          induction c with
          | zero => intro j t _ x y; omega
          | succ c ih =>
            intro j t ht x y
            by_cases e : i = j
            · subst e
              rw [ht.1]
              unfold stp
              rw [if_neg (by have := (hHn i).2 a; omega)]
            · exact ih (j + 1) _ ht.2 (by omega) (by omega)
        exact this 8 0 0 k3 (Nat.zero_le _) (by omega)
      exact ⟨crew, Y, fin crew Y k2 (fun i hi => (k4 i (Nat.zero_le _) hi).2.2) y0, k2, ⟨fun z => by rw [eu, hm] at z; omega, fun _ => k3⟩, fun i hi => k4 i (Nat.zero_le _) hi⟩
  obtain ⟨crew, Y, y1, y2, y3, y4⟩ := ref
  rw [y1]
  have wY : WFr w T Y := fun g r' k j x y => by
    rw [y2 g r' k (by omega) (by omega)]
    exact wX g r' k j x y
  -- the class
  unfold zf_C_fill
  have a1' : zf_C_ask r S = some ((al : Int), B) := by
    show zf_C_ask_8 r 4096 0 S = _
    rw [a1, w1, zbd_s]
    exact b1
  rw [a1', zbd_s]
  obtain ⟨v, c1, c2⟩ := c_asBefore (S := B) 8 0 4096 (by decide) (by decide)
  have c1' : zf_C_asBefore B = some (v, B) := c1
  rw [c1', zbd_s]
  rcases c2 with ⟨cv, c2⟩ | cv
  · -- as before
    rw [cv, if_neg n10]
    obtain ⟨can', hN', crew', d1, d2, d3, d4⟩ := hcr
    have bS : ∀ k, k = 0 ∨ k = 2 → B 20 0 k = S 20 0 k := fun k hk => by
      rw [b3 20 0 k (by omega) (by omega), a2 20 0 k (by omega) (by omega)]
    have bS3 : ∀ k, k = 10 ∨ k = 12 → B 3 0 k = S 3 0 k := fun k hk => by
      rw [b3 3 0 k (by omega) (by omega), a2 3 0 k (by omega) (by omega)]
    have ec : can' = fun i => cnC S r al i := by
      funext i
      by_cases hi : i < 8
      · have q1 := (c2 i (Nat.zero_le _) hi).1
        rw [b7 i hi, bS 2 (Or.inr rfl), (d1 i hi).1] at q1
        omega
      · rw [(d2 i (by omega)).1, (can0 i (by omega)).1]
    have eh : hN' = hnS S r := by
      funext i
      by_cases hi : i < 8
      · have q1 := (c2 i (Nat.zero_le _) hi).2
        rw [Bhn i hi, bS3 12 (Or.inr rfl), (d1 i hi).2.1] at q1
        omega
      · rw [(d2 i (by omega)).2, (can0 i (by omega)).2]
    rw [ec, eh] at d3
    have eq := d3.uniq y3
    have en : nfl crew' 8 = nfl crew 8 := cnt_congr 8 (fun i hi => by rw [eq i hi])
    refine ⟨crew, B, Y, ?_, rfl, cB, wY, ?_, fun i hi => ⟨(y4 i hi).1, ?_, (y4 i hi).2.1, (y4 i hi).2.2⟩⟩
    · rw [bS3 10 (Or.inl rfl), d4, en]
    · refine ⟨can', hN', crew', fun i hi => ?_, d2, by rw [ec, eh]; exact d3, by rw [bS3 10 (Or.inl rfl)]; exact d4⟩
      rw [bS 2 (Or.inr rfl), bS 0 (Or.inl rfl), bS3 12 (Or.inr rfl)]
      exact d1 i hi
    · rw [bS 0 (Or.inl rfl), (d1 i hi).2.2.1, eq i hi]
  · -- found anew
    rw [cv, if_pos z00, pf_Jl_bitCount b5, zbd_s, hm]
    have fresh : ∃ (cc : Nat → Nat) (D : Sg), (if (9 : Int) < (m : Int) then (zbd (zf_C_fillInTurn B) fun _ S10 => zf_C_fill_40 r S10) else (zbd (zf_C_fillBest (al : Int) B) fun _ S12 => zf_C_fill_40 r S12)) = zf_C_fill_40 r D ∧ (∀ (g : Nat) (r k : Int), ¬ (g = 3 ∧ r = 0 ∧ 13 ≤ k ∧ k ≤ 14) → ¬ g = 4 → ¬ (g = 20 ∧ r = 0 ∧ k = 0) → D g r k = B g r k) ∧ Crs (fun i => cnC S r al i) (hnS S r) cc ∧ (∀ i : Nat, i < 8 → cc i < 1099511627776 ∧ D 20 0 0 (i : Int) = (cc i : Int)) := by
      by_cases h9 : m ≤ 9
      · rw [if_neg (by omega)]
        unfold zf_C_fillBest
        obtain ⟨N, wo, n1, n2, n3, n4, n5⟩ := pf_nameFew (can := fun i => cnC S r al i) (S := B) b5 (by rw [hm]; exact h9) (fun i _ => hcan i) b7
        rw [hm] at n1 n2 n3 n4
        rw [n1, zbd_s, shl1 m (by omega)]
        have cw : Cw (hnS S r) (fun i => mks m (fun k => tb (cnC S r al i) (wo k))) N := by
          intro i hi
          refine ⟨?_, n4 i hi, ?_, ?_⟩
          · rw [n5 3 0 11 (by omega)]; exact Bhn i hi
          · exact Nat.lt_of_lt_of_le (mks_lt _ m) (Nat.pow_le_pow_right (n := 2) (by decide) h9)
          · by_cases z : i < nP
            · exact ((hHn i).1 z).2
            · rw [(hHn i).2 (by omega)]; decide
        obtain ⟨Q, q1, q2, q3⟩ := pf_weighAll h9 (fun i _ => mks_lt _ m) cw
        rw [q1, zbd_s]
        -- the best set
        obtain ⟨vv, v1, ⟨O, o1, o2, o3⟩, o4⟩ := q3 0 0 (by decide) (Nat.pow_pos (by decide))
        have e0 : tb 0 = fun _ => false := by
          funext k
          exact Nat.zero_testBit k
        rw [e0] at o2 o4
        have best : Best (hnS S r) (Fw (fun i => mks m (fun k => tb (cnC S r al i) (wo k)))) O := ⟨o1, o2, fun A hA H => by rw [o3]; exact o4 A hA H⟩
        obtain ⟨D, s, s1, s2, s3, s4, -⟩ := c_fillBest (hN := hnS S r) (who := wo) (m := m) (O := O) h9 (fun i _ => mks_lt _ m) 8 0 0 4096 Q (by decide) (by decide) (Nat.pow_pos (by decide)) (cw.keep2 q2) q3 (fun k hk => by rw [q2 3 0 13 (by omega)]; exact n3 k hk) (by rw [e0]; exact best.opt)
        rw [show ((0 : Nat) : Int) = 0 from rfl] at s1
        rw [s1, zbd_s]
        refine ⟨fun q => ppl wo (s q) m, D, rfl, fun g r' k x y z => ?_, ⟨fun _ => ?_, fun z => by rw [eu, hm] at z; omega⟩, fun i hi => ⟨ppl_lt (fun k hk => (n3 k hk).2), (s4 i (Nat.zero_le _) hi).2⟩⟩
        · rw [s2 g r' k z, q2 g r' k y, n5 g r' k x]
        · rw [eu]
          refine ⟨wo, O, s, by rw [hm]; exact n2, by rw [hm]; exact best, by rw [hm]; exact s3, fun q _ => by rw [hm]⟩
      · rw [if_pos (by omega)]
        obtain ⟨D, cc, k1, k2, k3, k4⟩ := pf_fillInTurn (can := fun i => cnC S r al i) (hN := hnS S r) (S := B) (fun i _ => hcan i) (fun i _ => by
          by_cases z : i < nP
          · exact ((hHn i).1 z).2
          · rw [(hHn i).2 (by omega)]; decide) (fun i hi => ⟨b7 i hi, Bhn i hi⟩)
        rw [k1, zbd_s]
        exact ⟨cc, D, rfl, fun g r' k _ _ z => k2 g r' k z, ⟨fun z => by rw [eu, hm] at z; omega, fun _ => k3⟩, k4⟩
    obtain ⟨cc, D, e1, e2, e3, e4⟩ := fresh
    rw [e1]
    have eq := e3.uniq y3
    unfold zf_C_fill_40
    rw [zlt_v]
    obtain ⟨E, f1, f2, f3, f4⟩ := c_note (crew := cc) (r := r) 8 0 4096 (zu D 3 0 10 5 0) (by decide) (by decide) (fun q hq => by rw [zu_ne (by omega)]; exact (e4 q hq).2) (zu_at ..) (fun q hq => absurd hq (Nat.not_lt_zero _))
    rw [show ((0 : Nat) : Int) = 0 from rfl] at f1
    rw [f1]
    have en : nfl cc 8 = nfl crew 8 := cnt_congr 8 (fun i hi => by rw [eq i hi])
    have eE : ∀ q : Nat, q < 8 → E 20 0 0 (q : Int) = (cc q : Int) := fun q hq => by
      rw [f2 20 0 0 (by omega) (by omega), zu_ne (by omega)]
      exact (e4 q hq).2
    refine ⟨crew, E, Y, by rw [en], rfl, fun g r' k x y z => ?_, wY, ?_, fun i hi => ⟨(y4 i hi).1, by rw [eE i hi, eq i hi], (y4 i hi).2.1, (y4 i hi).2.2⟩⟩
    · rw [f2 g r' k (by omega) (by omega), zu_ne (by omega), e2 g r' k (by omega) z (by omega)]
      exact cB g r' k x y z
    · refine ⟨fun i => cnC S r al i, hnS S r, cc, fun i hi => ⟨?_, ?_, eE i hi, (e4 i hi).1⟩, can0, e3, f3⟩
      · rw [(f4 i hi).1, zu_ne (by omega), e2 20 0 1 (by omega) (by omega) (by omega)]
        exact b7 i hi
      · rw [(f4 i hi).2, zu_ne (by omega), e2 3 0 11 (by omega) (by omega) (by omega)]
        exact Bhn i hi
