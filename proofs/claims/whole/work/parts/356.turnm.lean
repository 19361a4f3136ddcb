/-! ===== the reference: crews in turn; who fits ===== -/
/-- the least h of a set, as far as they lie below P -/
def lwP (f h P : Nat) : Nat := mks P (fun k => tb f k && decide (cnt k (tb f) < h))
theorem cnt_take (f : Nat → Bool) (h : Nat) : ∀ k, cnt k (fun x => f x && decide (cnt x f < h)) = min h (cnt k f)
  | 0 => by simp [cnt]
  | k + 1 => by
    rw [cnt, cnt_take f h k, cnt]
    cases e : f k with
    | false => simp
    | true =>
      by_cases q : cnt k f < h
      · rw [decide_eq_true q]; simp; omega
      · rw [decide_eq_false q]; simp; omega
theorem mks_up {s : Nat → Bool} {P Q : Nat} (h : P ≤ Q) (e : ∀ k, P ≤ k → k < Q → s k = false) : mks Q s = mks P s := by
  induction Q with
  | zero =>
    have : P = 0 := by omega
    subst this
    rfl
  | succ Q ih =>
    by_cases z : P = Q + 1
    · subst z; rfl
    · rw [mks, ih (by omega) (fun k a b => e k a (by omega)), e Q (by omega) (by omega)]
      simp
theorem cnt_up {s : Nat → Bool} {P Q : Nat} (h : P ≤ Q) (e : ∀ k, P ≤ k → k < Q → s k = false) : cnt Q s = cnt P s := by
  induction Q with
  | zero =>
    have : P = 0 := by omega
    subst this
    rfl
  | succ Q ih =>
    by_cases z : P = Q + 1
    · subst z; rfl
    · rw [cnt, ih (by omega) (fun k a b => e k a (by omega)), e Q (by omega) (by omega)]
      rfl
theorem cnt_tbz (n : Nat) : cnt n (tb 0) = 0 := cnt_zero (fun k _ => Nat.zero_testBit k)
/-- how far the first k of those in a set reach -/
def bnd (al m : Nat) (who : Nat → Nat) (k : Nat) : Nat := if k < m then who k else 40
theorem bnd_no {al m : Nat} {who : Nat → Nat} (hE : Enm al m who) {k : Nat} (hk : k < m) : who k + 1 ≤ bnd al m who (k + 1) ∧ ∀ q, who k + 1 ≤ q → q < bnd al m who (k + 1) → tb al q = false := by
  have g := hE.get hk
  unfold bnd
  by_cases z : k + 1 < m
  · rw [if_pos z]
    have g2 := hE.get z
    have lt : who k < who (k + 1) := by
      refine Nat.lt_of_not_le (fun q => ?_)
      have := cnt_le_of (f := tb al) q
      omega
    refine ⟨lt, fun q a b => ?_⟩
    cases e : tb al q with
    | false => rfl
    | true =>
      have h2 := cnt_lt_of (f := tb al) b e
      have h3 : cnt (who k + 1) (tb al) = k + 1 := by rw [cnt, g.2.1, g.2.2]; rfl
      have h4 := cnt_le_of (f := tb al) a
      omega
  · rw [if_neg z]
    refine ⟨g.1, fun q a b => ?_⟩
    cases e : tb al q with
    | false => rfl
    | true =>
      have h3 : cnt (who k + 1) (tb al) = k + 1 := by rw [cnt, g.2.1, g.2.2]; rfl
      have h4 := cnt_le_of (f := tb al) a
      have h5 := cnt_lt_of (f := tb al) b e
      have := hE.1
      omega
/-- the hands and who fits, as they are asked -/
def Rw3 (hN can who : Nat → Nat) (al m nP : Nat) (op : Nat → Bool) (w : Int) (T : Sg) : Prop := T 5 w 0 25 = (nP : Int) ∧ nP ≤ 8 ∧ T 5 w 0 52 = (m : Int) ∧ Enm al m who ∧ al < 1099511627776 ∧ (∀ j : Nat, j < m → T 5 w 36 (j : Int) = (who j : Int)) ∧ ∀ q : Nat, q < nP → T 5 w 22 (q : Int) = (hN q : Int) ∧ 1 ≤ hN q ∧ hN q ≤ 3 ∧ (T 5 w 24 (q : Int) = 1 ↔ op q = true) ∧ (op q = true → ∀ j, j < m → zf_W_fits w (q : Int) (who j : Int) T = some (if tb (can q) (who j) = true then 1 else 0, T)) ∧ (op q = true → ∀ j, tb (can q) j = true → tb al j = true) ∧ (op q = false → can q = 0)
theorem w_turn_in {hN can who : Nat → Nat} {al m nP : Nat} {op : Nat → Bool} {w : Int} {T : Sg} (hT : Rw3 hN can who al m nP op w T) (K : Int → Int → Sg → Option (Int × Sg)) {p t : Nat} (hp : p < nP) (ht : t < 1099511627776) (hop : op p = true) : ∀ (c k n : Nat), k + c = m → c < n → zf_W_oneByOne_21 w K n (t : Int) (p : Int) ((lwP (nd (can p) t) (hN p) (bnd al m who k) : Nat) : Int) ((min (hN p) (cnt (bnd al m who k) (tb (nd (can p) t))) : Nat) : Int) (k : Int) T = zf_W_oneByOne_105 w K (t : Int) (p : Int) ((lws (nd (can p) t) (hN p) : Nat) : Int) ((min (hN p) (cnt 40 (tb (nd (can p) t))) : Nat) : Int) T
  | _, _, 0, _, hn => absurd hn (Nat.not_lt_zero _)
  | 0, k, n + 1, hk, hn => by
    have e : bnd al m who k = 40 := by unfold bnd; rw [if_neg (by omega)]
    rw [zf_W_oneByOne_21, hT.2.2.1, if_pos (by omega), e]
    rfl
  | c + 1, k, n + 1, hk, hn => by
    obtain ⟨h1, h2, h3, hE, hal, h36, hq⟩ := id hT
    obtain ⟨q22, q1, q2, q24, qf, qa, -⟩ := hq p hp
    have hkm : k < m := by omega
    have g := hE.get hkm
    have hm40 : m ≤ 40 := by rw [hE.1]; exact cnt_le _ _
    have eb : bnd al m who k = who k := by unfold bnd; rw [if_pos hkm]
    obtain ⟨bn1, bn2⟩ := bnd_no hE hkm
    have fr_al : ∀ j, tb (nd (can p) t) j = true → tb al j = true := fun j hj => by
      have : (nd (can p) t).testBit j = true := hj
      rw [nd_bit, Bool.and_eq_true] at this
      exact qa hop j this.1
    have noF : ∀ j, who k + 1 ≤ j → j < bnd al m who (k + 1) → tb (nd (can p) t) j = false := fun j a b => by
      cases e : tb (nd (can p) t) j with
      | false => rfl
      | true =>
        have := fr_al j e
        rw [bn2 j a b] at this
        cases this
    have b40 : bnd al m who (k + 1) ≤ 40 := by
      unfold bnd
      split
      · rename_i z
        exact Nat.le_of_lt (hE.get z).1
      · exact Nat.le_refl _
    -- the next bound
    have up1 : lwP (nd (can p) t) (hN p) (bnd al m who (k + 1)) = lwP (nd (can p) t) (hN p) (who k + 1) := mks_up bn1 (fun j a b => by rw [noF j a b]; rfl)
    have up2 : cnt (bnd al m who (k + 1)) (tb (nd (can p) t)) = cnt (who k + 1) (tb (nd (can p) t)) := cnt_up bn1 noF
    have ih := w_turn_in hT K hp ht hop c (k + 1) n (by omega) (by omega)
    rw [up1, up2] at ih
    have lt40 : lwP (nd (can p) t) (hN p) (who k) < 2 ^ 40 := Nat.lt_of_lt_of_le (mks_lt _ _) (Nat.pow_le_pow_right (by decide) (by omega))
    rw [zf_W_oneByOne_21, h3, if_neg (by omega), zck_b (by omega), q22, eb]
    by_cases hfull : hN p ≤ cnt (who k) (tb (nd (can p) t))
    · -- there are enough
      rw [if_pos (by omega)]
      have e1 : lwP (nd (can p) t) (hN p) (who k) = lws (nd (can p) t) (hN p) := by
        refine (mks_up (P := who k) (Q := 40) (by omega) (fun j a b => ?_)).symm
        have := cnt_le_of (f := tb (nd (can p) t)) a
        rw [decide_eq_false (by omega), Bool.and_false]
      have e2 := cnt_le_of (f := tb (nd (can p) t)) (show who k ≤ 40 by omega)
      rw [e1, show min (hN p) (cnt (who k) (tb (nd (can p) t))) = min (hN p) (cnt 40 (tb (nd (can p) t))) by omega]
    · rw [if_neg (by omega), if_pos (q24.mpr hop), zck_b (by omega), h36 k hkm, zlbit_n (by omega) (by omega)]
      unfold zf_W_oneByOne_99
      have bit : tb (nd (can p) t) (who k) = (tb (can p) (who k) && !t.testBit (who k)) := nd_bit _ _ _
      -- he is not free
      have skip : tb (nd (can p) t) (who k) = false → (zlt (zw ((k : Int) + 1)) fun v1 => zf_W_oneByOne_21 w K n (t : Int) (p : Int) ((lwP (nd (can p) t) (hN p) (who k) : Nat) : Int) ((min (hN p) (cnt (who k) (tb (nd (can p) t))) : Nat) : Int) v1 T) = zf_W_oneByOne_105 w K (t : Int) (p : Int) ((lws (nd (can p) t) (hN p) : Nat) : Int) ((min (hN p) (cnt 40 (tb (nd (can p) t))) : Nat) : Int) T := by
        intro hb
        rw [zlt_v, zw1 (by omega)]
        have e1 : lwP (nd (can p) t) (hN p) (who k + 1) = lwP (nd (can p) t) (hN p) (who k) := mks_up (by omega) (fun j a b => by
          have : j = who k := by omega
          rw [this, hb]; rfl)
        have e2 : cnt (who k + 1) (tb (nd (can p) t)) = cnt (who k) (tb (nd (can p) t)) := by
          rw [cnt, hb]; rfl
        rw [e1, e2] at ih
        exact ih
      cases ht2 : t.testBit (who k) with
      | true =>
        rw [if_pos (show true = true from rfl), if_neg (show ¬ zcmp 1 0 = 0 by decide)]
        exact skip (by rw [bit, ht2, Bool.not_true, Bool.and_false])
      | false =>
        rw [if_neg (show ¬ (false = true) by decide), if_pos (show zcmp 0 0 = 0 by decide), qf hop k hkm, zbd_s]
        cases hc : tb (can p) (who k) with
        | false =>
          rw [if_neg (show ¬ (false = true) by decide), if_pos z00]
          exact skip (by rw [bit, hc]; rfl)
        | true =>
          rw [if_pos (show true = true from rfl), if_neg n10]
          have hb : tb (nd (can p) t) (who k) = true := by rw [bit, hc, ht2]; rfl
          have hpw : 2 ^ who k < 2 ^ 40 := Nat.pow_lt_pow_right (by decide) g.1
          simp only [zlt_v]
          rw [h36 k hkm, lsl1 _ g.1, zlor_n (by omega) (by omega), zw1 (show k < 100000 by omega), zw1 (show min (hN p) (cnt (who k) (tb (nd (can p) t))) < 100000 by omega)]
          have e1 : lwP (nd (can p) t) (hN p) (who k + 1) = lwP (nd (can p) t) (hN p) (who k) ||| 2 ^ who k := by
            unfold lwP
            rw [mks_or, hb, decide_eq_true (by omega)]
            simp
          have e2 : cnt (who k + 1) (tb (nd (can p) t)) = cnt (who k) (tb (nd (can p) t)) + 1 := by
            rw [cnt, hb]; rfl
          rw [e1, e2] at ih
          rw [← ih, show min (hN p) (cnt (who k) (tb (nd (can p) t))) + 1 = min (hN p) (cnt (who k) (tb (nd (can p) t)) + 1) by omega]
/-- a post that is closed -/
theorem w_turn_closed {hN can who : Nat → Nat} {al m nP : Nat} {op : Nat → Bool} {w : Int} {T : Sg} (hT : Rw3 hN can who al m nP op w T) (K : Int → Int → Sg → Option (Int × Sg)) {p t : Nat} (hp : p < nP) (hop : op p = false) : ∀ (c k n : Nat), k + c = m → c < n → zf_W_oneByOne_21 w K n (t : Int) (p : Int) 0 0 (k : Int) T = zf_W_oneByOne_105 w K (t : Int) (p : Int) 0 0 T
  | _, _, 0, _, hn => absurd hn (Nat.not_lt_zero _)
  | 0, k, n + 1, hk, hn => by
    rw [zf_W_oneByOne_21, hT.2.2.1, if_pos (by omega)]
  | c + 1, k, n + 1, hk, hn => by
    obtain ⟨h1, h2, h3, hE, hal, h36, hq⟩ := id hT
    obtain ⟨q22, q1, q2, q24, -, -, -⟩ := hq p hp
    have hm40 : m ≤ 40 := by rw [hE.1]; exact cnt_le _ _
    rw [zf_W_oneByOne_21, h3, if_neg (by omega), zck_b (by omega), q22, if_neg (by omega), if_neg (fun z => by
      have := q24.mp z
      rw [hop] at this
      cases this)]
    unfold zf_W_oneByOne_99
    rw [zlt_v, zw1 (by omega)]
    exact w_turn_closed hT K hp hop c (k + 1) n (by omega) (by omega)
theorem Rw3.keep {hN can who : Nat → Nat} {al m nP : Nat} {op : Nat → Bool} {w : Int} {T T2 : Sg} (h : Rw3 hN can who al m nP op w T) (hf : WB w T T2) : Rw3 hN can who al m nP op w T2 := by
  obtain ⟨h1, h2, h3, h4, h5, h6, h7⟩ := h
  refine ⟨by rw [hf 5 w 0 (by omega) (by omega)]; exact h1, h2, by rw [hf 5 w 0 (by omega) (by omega)]; exact h3, h4, h5, fun j hj => by rw [hf 5 w 36 (by omega) (by omega)]; exact h6 j hj, fun q hq => ?_⟩
  obtain ⟨a1, a2, a3, a4, a5, a6, a7⟩ := h7 q hq
  refine ⟨by rw [hf 5 w 22 (by omega) (by omega)]; exact a1, a2, a3, by rw [hf 5 w 24 (by omega) (by omega)]; exact a4, fun ho j hj => ?_, a6, a7⟩
  have b := a5 ho j hj
  unfold zf_W_fits at b ⊢
  rw [hf 5 w 4 (by omega) (by omega), hf 5 w 21 (by omega) (by omega)]
  have hwk := (h4.get hj).1
  rw [zck_b (by omega), zck_b (by omega)] at b ⊢
  by_cases z : zand (zshr (T 5 w 4 (who j : Int)) (T 5 w 21 (q : Int))) 1 = 1
  · rw [if_pos z] at b ⊢
    rw [(Prod.mk.inj (Option.some.inj b)).1.symm]
  · rw [if_neg z] at b ⊢
    rw [(Prod.mk.inj (Option.some.inj b)).1.symm]
theorem w_turn {hN can who : Nat → Nat} {al m nP : Nat} {op : Nat → Bool} {w : Int} (hh : HnC hN nP) (hc0 : ∀ q, nP ≤ q → q < 8 → can q = 0) (hcan : ∀ i, i < 8 → can i < 1099511627776) : ∀ (c p n t : Nat) (T : Sg), p + c = nP → c < n → t < 1099511627776 → Rw3 hN can who al m nP op w T → (∀ q : Nat, p ≤ q → q < 8 → T 21 w 0 (q : Int) = 0 ∧ T 5 w 37 (q : Int) = 0) → ∃ T2, ∃ crew : Nat → Nat, zf_W_oneByOne_4 w n (t : Int) (p : Int) T = some (0, T2) ∧ WB w T T2 ∧ Trn can hN crew (8 - p) p t ∧ (∀ q : Nat, p ≤ q → q < 8 → crew q < 1099511627776 ∧ T2 21 w 0 (q : Int) = (crew q : Int) ∧ T2 5 w 37 (q : Int) = (if crew q = 0 then 0 else 1)) ∧ ∀ q : Int, q < p → T2 21 w 0 q = T 21 w 0 q ∧ T2 5 w 37 q = T 5 w 37 q
  | _, _, 0, _, _, _, hn, _, _, _ => absurd hn (Nat.not_lt_zero _)
  | 0, p, n + 1, t, T, hp, hn, ht, hT, h21 => by
    rw [zf_W_oneByOne_4, hT.1, if_pos (by omega)]
    have tail : ∀ (c i t : Nat), nP ≤ i → i + c ≤ 8 → Trn can hN (fun _ => 0) c i t := by
      intro c
      induction c with
      | zero => intro _ _ _ _; trivial
      | succ c ih =>
        intro i t hi hc
        refine ⟨?_, by rw [Nat.or_zero]; exact ih (i + 1) t (by omega) (by omega)⟩
        unfold stp
        rw [if_neg (by have := (hh i).2 hi; omega)]
    have h8 := hT.2.1
    exact ⟨T, fun _ => 0, rfl, fun _ _ _ _ _ => rfl, tail _ _ _ (by omega) (by omega), fun q a b => ⟨(by show 0 < 1099511627776; decide), (h21 q a b).1, (h21 q a b).2⟩, fun _ _ => ⟨rfl, rfl⟩⟩
  | c + 1, p, n + 1, t, T, hp, hn, ht, hT, h21 => by
    have h8 := hT.2.1
    have hpP : p < nP := by omega
    obtain ⟨q22, q1, q2, q24, qf, qa, qc⟩ := hT.2.2.2.2.2.2 p hpP
    have hE := hT.2.2.2.1
    have hm40 : m ≤ 40 := by rw [hE.1]; exact cnt_le _ _
    -- behind the post
    have go : ∀ (U : Sg) (x : Nat), x = stp (can p) (hN p) t → WB w T U → U 21 w 0 (p : Int) = (x : Int) → U 5 w 37 (p : Int) = (if x = 0 then 0 else 1) → (∀ q : Int, q ≠ p → U 21 w 0 q = T 21 w 0 q ∧ U 5 w 37 q = T 5 w 37 q) → ∃ T2, ∃ crew : Nat → Nat, zf_W_oneByOne_4 w n ((t ||| x : Nat) : Int) ((p + 1 : Nat) : Int) U = some (0, T2) ∧ WB w T T2 ∧ Trn can hN crew (8 - p) p t ∧ (∀ q : Nat, p ≤ q → q < 8 → crew q < 1099511627776 ∧ T2 21 w 0 (q : Int) = (crew q : Int) ∧ T2 5 w 37 (q : Int) = (if crew q = 0 then 0 else 1)) ∧ ∀ q : Int, q < p → T2 21 w 0 q = T 21 w 0 q ∧ T2 5 w 37 q = T 5 w 37 q := by
      intro U x hx wU ux ux2 uq
      have xl : x < 1099511627776 := by rw [hx]; exact stp_lt _ _ _
      obtain ⟨T2, crew, k1, k2, k3, k4, k5⟩ := w_turn hh hc0 hcan c (p + 1) n (t ||| x) U (by omega) (by omega) (Nat.or_lt_two_pow (n := 40) ht xl) (hT.keep wU) (fun q a b => by
        rw [(uq q (by omega)).1, (uq q (by omega)).2]
        exact h21 q (by omega) b)
      refine ⟨T2, fun q => if q = p then x else crew q, k1, fun g r k a b => (k2 g r k a b).trans (wU g r k a b), ?_, fun q a b => ?_, fun q hq => ?_⟩
      · rw [show 8 - p = (8 - (p + 1)) + 1 by omega]
        refine ⟨by simp only [if_true]; exact hx, ?_⟩
        simp only [if_true]
        exact k3.congr _ _ _ (fun q a _ => by rw [if_neg (by omega)])
      · by_cases e : q = p
        · subst e
          simp only [if_true]
          exact ⟨xl, by rw [(k5 q (by omega)).1, ux], by rw [(k5 q (by omega)).2, ux2]⟩
        · simp only [if_neg e]
          exact k4 q (by omega) b
      · rw [(k5 q (by omega)).1, (k5 q (by omega)).2]
        exact uq q (by omega)
    have none : stp (can p) (hN p) t = 0 → ∃ T2, ∃ crew : Nat → Nat, zf_W_oneByOne_4 w n (t : Int) ((p + 1 : Nat) : Int) T = some (0, T2) ∧ WB w T T2 ∧ Trn can hN crew (8 - p) p t ∧ (∀ q : Nat, p ≤ q → q < 8 → crew q < 1099511627776 ∧ T2 21 w 0 (q : Int) = (crew q : Int) ∧ T2 5 w 37 (q : Int) = (if crew q = 0 then 0 else 1)) ∧ ∀ q : Int, q < p → T2 21 w 0 q = T 21 w 0 q ∧ T2 5 w 37 q = T 5 w 37 q := by
      intro e
      have h := h21 p (Nat.le_refl _) (by omega)
      have := go T 0 e.symm (fun _ _ _ _ _ => rfl) h.1 (by rw [h.2]; rfl) (fun _ _ => ⟨rfl, rfl⟩)
      rw [Nat.or_zero] at this
      exact this
    rw [zf_W_oneByOne_4, hT.1, if_neg (by omega)]
    cases hop : op p with
    | false =>
      have := w_turn_closed hT (zf_W_oneByOne_4 w n) (t := t) hpP hop m 0 4096 (by omega) (by omega)
      rw [show ((0 : Nat) : Int) = 0 from rfl] at this
      rw [this]
      unfold zf_W_oneByOne_105 zf_W_oneByOne_146
      simp only [zlt_v]
      rw [zw1 (show p < 100000 by omega), zck_b (by omega), if_neg (fun z => by
        have := q24.mp z
        rw [hop] at this
        cases this)]
      refine none ?_
      unfold stp
      rw [qc hop]
      have : nd 0 t = 0 := by
        have := nd_le 0 t
        omega
      rw [this, if_neg (by rw [cnt_tbz]; omega)]
    | true =>
      have hnd : nd (can p) t < 1099511627776 := Nat.lt_of_le_of_lt (nd_le _ _) (hcan p (by omega))
      have hin := w_turn_in hT (zf_W_oneByOne_4 w n) hpP ht hop m 0 4096 (by omega) (by omega)
      -- before the first of them nobody is free
      have e0 : ∀ j, j < bnd al m who 0 → tb (nd (can p) t) j = false := by
        intro j hj
        cases e : tb (nd (can p) t) j with
        | false => rfl
        | true =>
          have h1 : (nd (can p) t).testBit j = true := e
          rw [nd_bit, Bool.and_eq_true] at h1
          have h2 := qa hop j h1.1
          unfold bnd at hj
          by_cases z : 0 < m
          · rw [if_pos z] at hj
            have g := hE.get z
            have := cnt_lt_of (f := tb al) hj h2
            omega
          · rw [if_neg z] at hj
            have := cnt_pos (n := 40) hj h2
            have := hE.1
            omega
      have a1 : lwP (nd (can p) t) (hN p) (bnd al m who 0) = 0 := by
        unfold lwP
        rw [mks_up (P := 0) (Nat.zero_le _) (fun k _ b => by rw [e0 k b]; rfl)]
        rfl
      have a2 : cnt (bnd al m who 0) (tb (nd (can p) t)) = 0 := cnt_zero e0
      rw [a1, a2, Nat.min_zero, show ((0 : Nat) : Int) = 0 from rfl] at hin
      rw [hin]
      unfold zf_W_oneByOne_105 zf_W_oneByOne_146
      simp only [zlt_v]
      rw [zw1 (show p < 100000 by omega), zck_b (by omega), if_pos (q24.mpr hop), q22]
      by_cases hb : hN p ≤ cnt 40 (tb (nd (can p) t))
      · rw [if_pos (by omega)]
        have hl := lws_lt (nd (can p) t) (hN p)
        rw [zlor_n (by omega) (by omega)]
        have hs : lws (nd (can p) t) (hN p) = stp (can p) (hN p) t := by
          unfold stp
          rw [if_pos ⟨by omega, hb⟩]
        have hne : lws (nd (can p) t) (hN p) ≠ 0 := by
          intro z
          have h1 := cnt_take (tb (nd (can p) t)) (hN p) 40
          have h2 : cnt 40 (tb (lws (nd (can p) t) (hN p))) = cnt 40 (fun x => tb (nd (can p) t) x && decide (cnt x (tb (nd (can p) t)) < hN p)) := cnt_congr 40 (fun k hk => mks_bit _ 40 k hk)
          rw [z, cnt_tbz] at h2
          omega
        refine go (zu (zu T 21 w 0 (p : Int) _) 5 w 37 (p : Int) 1) _ hs (fun g r k a b => by rw [zu_ne b, zu_ne a]) (by rw [zu_ne (by omega), zu_at]) (by rw [zu_at, if_neg hne]) (fun q hq => ⟨by rw [zu_ne (by omega), zu_pl hq], by rw [zu_pl hq, zu_ne (by omega)]⟩)
      · rw [if_neg (by omega)]
        refine none ?_
        unfold stp
        rw [if_neg (by omega)]
