/-! ===== the reference: the best set, its crews ===== -/
def Opn (op : Nat → Bool) (nP : Nat) (w : Int) (T : Sg) : Prop := ∀ q : Nat, q < nP → (T 5 w 24 (q : Int) = 1 ↔ op q = true)
def OkO (hN ft : Nat → Nat) (op : Nat → Bool) (z : Nat) : Prop := (∀ q, tb z q = true → op q = true) ∧ Hal 9 8 hN (Fw ft) (tb z) 0 (tb 0)
theorem w_best_in {hN ft : Nat → Nat} {nP : Nat} {op : Nat → Bool} {w : Int} {T : Sg} (hT : Rw2 hN ft nP w T) (hop : Opn op nP w T) (K : Int → Int → Sg → Option (Int × Sg)) {x b : Nat} (hx : x < 2 ^ nP) (hb : b < 2 ^ nP) : ∀ (c q n : Nat) (fl : Int), q + c = nP → c < n → b2 fl → ((fl = 1 ∧ (∀ j, q ≤ j → tb x j = true → op j = true) ∧ ned gd 8 (tb b) < ned gd 8 (tb x) ∧ Hal 9 8 hN (Fw ft) (tb x) 0 (tb 0)) ∧ zf_W_bestSet_19 w K n (b : Int) (x : Int) fl (q : Int) T = K (x : Int) ((x + 1 : Nat) : Int) T) ∨ (¬ (fl = 1 ∧ (∀ j, q ≤ j → tb x j = true → op j = true) ∧ ned gd 8 (tb b) < ned gd 8 (tb x) ∧ Hal 9 8 hN (Fw ft) (tb x) 0 (tb 0)) ∧ zf_W_bestSet_19 w K n (b : Int) (x : Int) fl (q : Int) T = K (b : Int) ((x + 1 : Nat) : Int) T)
  | _, _, 0, _, _, hn, _ => absurd hn (Nat.not_lt_zero _)
  | 0, q, n + 1, fl, hq, hn, hf => by
    have h8 := hT.2.1
    have p8 : 2 ^ nP ≤ 2 ^ 8 := Nat.pow_le_pow_right (by decide) h8
    have tl : ∀ j, q ≤ j → tb x j = true → op j = true := fun j hj hj2 => by
      rw [tb_hi hx (by omega)] at hj2
      cases hj2
    rw [zf_W_bestSet_19, if_pos (by rw [hT.1]; omega)]
    unfold zf_W_bestSet_87
    simp only [zlt_v]
    rw [zw1 (show x < 100000 by omega)]
    by_cases h0 : fl = 0
    · rw [if_pos h0]
      exact Or.inr ⟨fun z => by omega, rfl⟩
    · have h1 : fl = 1 := by omega
      rw [if_neg h0, pf_rather (by omega) (by omega), zbd_s]
      by_cases hs : ned gd 8 (tb b) < ned gd 8 (tb x)
      · rw [if_pos hs, if_neg n10]
        obtain ⟨v, k1, k2, k3⟩ := pf_feasible hT (set := x) (p := 0) (t := 0) hx (by decide) (by decide)
        rw [show ((0 : Nat) : Int) = 0 from rfl] at k1
        rw [k1, zbd_s]
        by_cases hv : v = 0
        · rw [if_pos hv]
          exact Or.inr ⟨fun z => by have := k3.mpr z.2.2.2; omega, rfl⟩
        · rw [if_neg hv]
          exact Or.inl ⟨⟨h1, tl, hs, k3.mp (by omega)⟩, rfl⟩
      · rw [if_neg hs, if_pos z00]
        exact Or.inr ⟨fun z => hs z.2.2.1, rfl⟩
  | c + 1, q, n + 1, fl, hq, hn, hf => by
    have h8 := hT.2.1
    have p8 : 2 ^ nP ≤ 2 ^ 8 := Nat.pow_le_pow_right (by decide) h8
    rw [zf_W_bestSet_19, if_neg (by rw [hT.1]; omega), zbit_n (by omega) (by omega)]
    unfold zf_W_bestSet_49 zf_W_bestSet_54
    simp only [zlt_v]
    rw [zw1 (show q < 100000 by omega)]
    have f1 : zand fl 1 = fl := by rcases hf with e | e <;> subst e <;> decide
    have f0 : zand fl 0 = 0 := by rcases hf with e | e <;> subst e <;> decide
    rw [f1, f0]
    have ok : ((tb x q = true → op q = true)) → ((fl = 1 ∧ (∀ j, q ≤ j → tb x j = true → op j = true) ∧ ned gd 8 (tb b) < ned gd 8 (tb x) ∧ Hal 9 8 hN (Fw ft) (tb x) 0 (tb 0)) ∧ zf_W_bestSet_19 w K n (b : Int) (x : Int) fl ((q + 1 : Nat) : Int) T = K (x : Int) ((x + 1 : Nat) : Int) T) ∨ (¬ (fl = 1 ∧ (∀ j, q ≤ j → tb x j = true → op j = true) ∧ ned gd 8 (tb b) < ned gd 8 (tb x) ∧ Hal 9 8 hN (Fw ft) (tb x) 0 (tb 0)) ∧ zf_W_bestSet_19 w K n (b : Int) (x : Int) fl ((q + 1 : Nat) : Int) T = K (b : Int) ((x + 1 : Nat) : Int) T) := by
      intro hq1
      rcases w_best_in hT hop K hx hb c (q + 1) n fl (by omega) (by omega) hf with ⟨a, e⟩ | ⟨a, e⟩
      · refine Or.inl ⟨⟨a.1, fun j hj hj2 => ?_, a.2.2⟩, e⟩
        by_cases z : j = q
        · rw [z] at hj2 ⊢; exact hq1 hj2
        · exact a.2.1 j (by omega) hj2
      · exact Or.inr ⟨fun z => a ⟨z.1, fun j hj => z.2.1 j (by omega), z.2.2⟩, e⟩
    cases hbit : x.testBit q with
    | false =>
      rw [if_neg (show ¬ (false = true) by decide), if_pos z00]
      exact ok (fun h => by unfold tb at h; rw [hbit] at h; cases h)
    | true =>
      rw [if_pos (show true = true from rfl), if_neg n10, zck_b (by omega)]
      by_cases ho : T 5 w 24 (q : Int) = 1
      · rw [if_pos ho]
        exact ok (fun _ => (hop q (by omega)).mp ho)
      · rw [if_neg ho]
        have no : op q ≠ true := fun h => ho ((hop q (by omega)).mpr h)
        rcases w_best_in hT hop K hx hb c (q + 1) n 0 (by omega) (by omega) (Or.inl rfl) with ⟨a, e⟩ | ⟨a, e⟩
        · exact absurd a.1 (by decide)
        · exact Or.inr ⟨fun z => no (z.2.1 q (Nat.le_refl _) hbit), e⟩
theorem w_best_out {hN ft : Nat → Nat} {nP : Nat} {op : Nat → Bool} {w : Int} {T : Sg} (hT : Rw2 hN ft nP w T) (hop : Opn op nP w T) : ∀ (c x n b : Nat), x + c = 2 ^ nP → c < n → b < 2 ^ nP → OkO hN ft op b → (∀ z, z < x → OkO hN ft op z → ned gd 8 (tb z) ≤ ned gd 8 (tb b)) → ∃ O : Nat, zf_W_bestSet_4 w n (b : Int) (x : Int) T = some ((O : Int), T) ∧ O < 2 ^ nP ∧ OkO hN ft op O ∧ ∀ z, z < 2 ^ nP → OkO hN ft op z → ned gd 8 (tb z) ≤ ned gd 8 (tb O)
  | _, _, 0, _, _, hn, _, _, _ => absurd hn (Nat.not_lt_zero _)
  | 0, x, n + 1, b, hx, hn, hb, hO, hm => by
    have h8 := hT.2.1
    rw [zf_W_bestSet_4, hT.1, shl1 _ (by omega), if_pos (by omega)]
    exact ⟨b, rfl, hb, hO, fun z hz => hm z (by omega)⟩
  | c + 1, x, n + 1, b, hx, hn, hb, hO, hm => by
    have h8 := hT.2.1
    rw [zf_W_bestSet_4, hT.1, shl1 _ (by omega), if_neg (by omega)]
    rcases w_best_in hT hop (zf_W_bestSet_4 w n) (x := x) (b := b) (by omega) hb nP 0 4096 1 (by omega) (by omega) (Or.inr rfl) with ⟨a, e⟩ | ⟨a, e⟩
    · rw [show ((0 : Nat) : Int) = 0 from rfl] at e
      rw [e]
      refine w_best_out hT hop c (x + 1) n x (by omega) (by omega) (by omega) ⟨fun q hq => a.2.1 q (Nat.zero_le _) hq, a.2.2.2⟩ (fun z hz hz2 => ?_)
      by_cases ez : z = x
      · rw [ez]; exact Nat.le_refl _
      · have := hm z (by omega) hz2
        have := a.2.2.1
        omega
    · rw [show ((0 : Nat) : Int) = 0 from rfl] at e
      rw [e]
      refine w_best_out hT hop c (x + 1) n b (by omega) (by omega) hb hO (fun z hz hz2 => ?_)
      by_cases ez : z = x
      · subst ez
        refine Nat.le_of_not_lt (fun hlt => a ⟨rfl, fun j _ hj => hz2.1 j hj, hlt, hz2.2⟩)
      · exact hm z (by omega) hz2
theorem hal_0 {h : Nat → Nat} {F : Nat → Nat → Bool} {i : Nat} {t : Nat → Bool} : Hal 9 8 h F (tb 0) i t := by
  intro B hB
  rw [ned_congr (B := fun _ => false) 8 (fun q _ => by
    cases e : B q with
    | false => rfl
    | true =>
      have := (hB q e).1
      unfold tb at this
      rw [Nat.zero_testBit] at this
      cases this), ned_zero]
  exact Nat.zero_le _
/-- the class's sets against the reference's: closed posts fit nobody -/
def FwC (fw ft : Nat → Nat) (op : Nat → Bool) (nP : Nat) : Prop := ∀ q, q < 8 → (q < nP ∧ op q = true → fw q = ft q) ∧ (¬ (q < nP ∧ op q = true) → fw q = 0)
def HnC (hN : Nat → Nat) (nP : Nat) : Prop := ∀ q, (q < nP → 1 ≤ hN q ∧ hN q ≤ 3) ∧ (nP ≤ q → hN q = 0)
theorem pf_bestSet {hN ft fw : Nat → Nat} {nP : Nat} {op : Nat → Bool} {w : Int} {T : Sg} (hT : Rw2 hN ft nP w T) (hop : Opn op nP w T) (hf : FwC fw ft op nP) (hh : HnC hN nP) : ∃ O : Nat, zf_W_bestSet w T = some ((O : Int), T) ∧ O < 2 ^ nP ∧ (∀ q, tb O q = true → op q = true) ∧ Best hN (Fw fw) (tb O) := by
  have h8 := hT.2.1
  unfold zf_W_bestSet
  have p1 : 1 ≤ 2 ^ nP := Nat.pow_pos (by decide)
  obtain ⟨O, k1, k2, k3, k4⟩ := w_best_out hT hop (2 ^ nP - 1) 1 4096 0 (by omega) (by
    have : 2 ^ nP ≤ 2 ^ 8 := Nat.pow_le_pow_right (by decide) h8
    omega) (by omega) ⟨fun q hq => (by unfold tb at hq; rw [Nat.zero_testBit] at hq; cases hq), hal_0⟩ (fun z hz _ => by
      have : z = 0 := by omega
      rw [this]; exact Nat.le_refl _)
  refine ⟨O, k1, k2, k3.1, ?_, ?_, ?_⟩
  · intro q hq
    have : q < nP := Nat.lt_of_not_le (fun z => by rw [tb_hi k2 z] at hq; cases hq)
    exact ⟨Nat.zero_le _, by omega, by have := (hh q).1 this; omega⟩
  · have e0 : tb 0 = fun _ => false := by
      funext k
      exact Nat.zero_testBit k
    rw [← e0]
    refine k3.2.congr (fun _ z _ => z) (fun q k hq _ _ => ?_)
    have h1 : q < nP := Nat.lt_of_not_le (fun z => by rw [tb_hi k2 z] at hq; cases hq)
    unfold Fw
    rw [((hf q (by omega)).1 ⟨h1, k3.1 q hq⟩)]
  · intro A hA H
    have aq : ∀ q, A q = true → q < nP ∧ op q = true := by
      intro q hq
      have h1 := hA q hq
      have h2 : q < nP := Nat.lt_of_not_le (fun z => by have := (hh q).2 z; omega)
      refine ⟨h2, ?_⟩
      cases ho : op q with
      | true => rfl
      | false =>
        have f0 := (hf q (by omega)).2 (fun z => by rw [ho] at z; exact absurd z.2 (by decide))
        have := H (fun j => decide (j = q)) (fun j hj => by
          have := of_decide_eq_true hj
          subst this
          exact ⟨hq, Nat.zero_le _⟩)
        rw [ned_split (i := q) h1.2.1 (by simp), cnt_zero (fun k _ => by
          have : fit (Fw fw) 8 (fun j => decide (j = q)) k = false := by
            rw [Bool.eq_false_iff]
            intro e
            rw [fit_iff] at e
            obtain ⟨j, -, b, c⟩ := e
            have := of_decide_eq_true b
            subst this
            unfold Fw tb at c
            rw [f0, Nat.zero_testBit] at c
            cases c
          rw [this]; rfl)] at this
        omega
    have eA : A = tb (mks nP A) := by
      funext q
      by_cases z : q < nP
      · exact (mks_bit A nP q z).symm
      · rw [tb_hi (mks_lt A nP) (by omega)]
        cases e : A q with
        | false => rfl
        | true => exact absurd (aq q e).1 z
    rw [eA]
    refine k4 _ (mks_lt A nP) ⟨fun q hq => (aq q (by rw [eA]; exact hq)).2, ?_⟩
    rw [← eA]
    have e0 : tb 0 = fun _ => false := by
      funext k
      exact Nat.zero_testBit k
    rw [e0]
    refine H.congr (fun _ z _ => z) (fun q k hq _ _ => ?_)
    unfold Fw
    rw [((hf q (by have := aq q hq; omega)).1 (aq q hq))]
/-- a whole crew, as the reference asks -/
theorem pf_isCrew {hN ft : Nat → Nat} {nP : Nat} {w : Int} {T : Sg} (hT : Rw2 hN ft nP w T) {p x t : Nat} (hp : p < nP) (hx : x < 512) : ∃ v, zf_W_isCrew w (p : Int) (x : Int) (t : Int) T = some (v, T) ∧ b2 v ∧ (v = 1 ↔ Crw 9 hN (Fw ft) p (tb t) (tb x)) := by
  obtain ⟨h1, h2, h3⟩ := hT
  have hq := h3 p hp
  unfold zf_W_isCrew
  rw [zand_n (by omega)]
  have iff : Crw 9 hN (Fw ft) p (tb t) (tb x) ↔ x &&& t = 0 ∧ cnt 9 (tb x) = hN p ∧ nd x (ft p) = 0 := by
    unfold Crw
    constructor
    · rintro ⟨a, b⟩
      refine ⟨?_, b, ?_⟩
      · apply Nat.eq_of_testBit_eq
        intro i
        rw [Nat.testBit_and, Nat.zero_testBit]
        cases e : x.testBit i with
        | false => rfl
        | true =>
          have := (a i e).2.1
          unfold tb at this
          rw [this]; rfl
      · apply Nat.eq_of_testBit_eq
        intro i
        rw [nd_bit, Nat.zero_testBit]
        cases e : x.testBit i with
        | false => rfl
        | true =>
          have := (a i e).1
          unfold Fw tb at this
          rw [this]; rfl
    · rintro ⟨a, b, c⟩
      refine ⟨fun k hk => ⟨?_, ?_, ?_⟩, b⟩
      · have := nd_bit x (ft p) k
        rw [c, Nat.zero_testBit] at this
        unfold tb at hk
        rw [hk] at this
        unfold Fw tb
        simpa using this.symm
      · have : (x &&& t).testBit k = false := by rw [a, Nat.zero_testBit]
        rw [Nat.testBit_and] at this
        unfold tb at hk ⊢
        rw [hk] at this
        simpa using this
      · refine Nat.lt_of_not_le (fun z => ?_)
        rw [tb_hi (n := 9) hx z] at hk
        cases hk
  by_cases e1 : x &&& t = 0
  · rw [if_pos (by rw [e1]; rfl), pf_Ji_bitCount, zbc9 hx, zbd_s, zck_b (by omega), hq.1]
    by_cases e2 : cnt 9 (tb x) = hN p
    · rw [if_pos (by rw [e2]), hq.2.1, zandn_n (by omega)]
      by_cases e3 : nd x (ft p) = 0
      · rw [if_pos (by rw [e3]; rfl)]
        exact ⟨1, rfl, Or.inr rfl, fun _ => iff.mpr ⟨e1, e2, e3⟩, fun _ => rfl⟩
      · rw [if_neg (by omega)]
        exact ⟨0, rfl, Or.inl rfl, fun z => by omega, fun z => absurd (iff.mp z).2.2 e3⟩
    · rw [if_neg (by omega)]
      exact ⟨0, rfl, Or.inl rfl, fun z => by omega, fun z => absurd (iff.mp z).2.1 e2⟩
  · rw [if_neg (by omega)]
    exact ⟨0, rfl, Or.inl rfl, fun z => by omega, fun z => absurd (iff.mp z).1 e1⟩
/-- the crew's people are noted -/
theorem w_note {who : Nat → Nat} {m : Nat} {w : Int} (K : Int → Int → Int → Sg → Option (Int × Sg)) {O t x p : Nat} (hm : m ≤ 9) (hx : x < 512) (hp : p < 8) : ∀ (c k n : Nat) (T : Sg), k + c = m → c < n → T 5 w 0 52 = (m : Int) → (∀ j : Nat, j < m → T 5 w 36 (j : Int) = (who j : Int) ∧ who j < 40) → T 21 w 0 (p : Int) = ((ppl who x k : Nat) : Int) → ∃ T2, zf_W_byAll_83 w K n (O : Int) (t : Int) (p : Int) (x : Int) (k : Int) T = K (O : Int) (t : Int) ((p + 1 : Nat) : Int) T2 ∧ (∀ (g : Nat) (r k j : Int), ¬ (g = 21 ∧ r = w ∧ k = 0 ∧ j = p) → T2 g r k j = T g r k j) ∧ T2 21 w 0 (p : Int) = ((ppl who x m : Nat) : Int)
  | _, _, 0, _, _, hn, _, _, _ => absurd hn (Nat.not_lt_zero _)
  | 0, k, n + 1, T, hk, hn, h52, hw, hc => by
    have e : k = m := by omega
    subst e
    rw [zf_W_byAll_83, if_pos (by omega)]
    unfold zf_W_byAll_140
    rw [zlt_v, zw1 (by omega)]
    exact ⟨T, rfl, fun _ _ _ _ _ => rfl, hc⟩
  | c + 1, k, n + 1, T, hk, hn, h52, hw, hc => by
    have hwk := hw k (by omega)
    have hpl := ppl_lt (who := who) (s := x) (m := k) (fun j hj => (hw j (by omega)).2)
    rw [zf_W_byAll_83, if_neg (by omega), zck_b (by omega), zbit_n (by omega) (by omega)]
    unfold zf_W_byAll_123
    rw [hc]
    have key : ∀ y : Int, y = ((ppl who x (k + 1) : Nat) : Int) → ∃ T2, (zck (0 ≤ (p : Int) ∧ (p : Int) < 8) <| zlt (zu T 21 w 0 (p : Int) y) fun S2 => zlt (zw ((k : Int) + 1)) fun v3 => zf_W_byAll_83 w K n (O : Int) (t : Int) (p : Int) (x : Int) v3 S2) = K (O : Int) (t : Int) ((p + 1 : Nat) : Int) T2 ∧ (∀ (g : Nat) (r k j : Int), ¬ (g = 21 ∧ r = w ∧ k = 0 ∧ j = p) → T2 g r k j = T g r k j) ∧ T2 21 w 0 (p : Int) = ((ppl who x m : Nat) : Int) := by
      intro y hy
      subst hy
      rw [zck_b (by omega), zlt_v, zlt_v, zw1 (by omega)]
      obtain ⟨T2, k1, k2, k3⟩ := w_note (who := who) (O := O) (t := t) K hm hx hp c (k + 1) n (zu T 21 w 0 (p : Int) ((ppl who x (k + 1) : Nat) : Int)) (by omega) (by omega) (by rw [zu_ne (by omega)]; exact h52) (fun j hj => by rw [zu_ne (by omega)]; exact hw j hj) (zu_at ..)
      exact ⟨T2, k1, fun g r k j z => (k2 g r k j z).trans (if_neg z), k3⟩
    have e2 : ppl who x (k + 1) = ppl who x k ||| (if x.testBit k then 2 ^ who k else 0) := rfl
    cases hb : x.testBit k with
    | true =>
      rw [if_pos (show true = true from rfl), if_pos (show (1 : Int) = 1 from rfl), zck_b (by omega), hwk.1]
      have hpw : 2 ^ who k < 2 ^ 40 := Nat.pow_lt_pow_right (by decide) hwk.2
      refine key _ ?_
      rw [lsl1 _ hwk.2, zlor_n (by omega) (by omega), e2, hb]
      rfl
    | false =>
      rw [if_neg (show ¬ (false = true) by decide), if_neg (show ¬ ((0 : Int) = 1) by decide)]
      refine key _ ?_
      rw [show (0 : Int) = ((0 : Nat) : Int) from rfl, zlor_n (by omega) (by decide), e2, hb]
      rfl
