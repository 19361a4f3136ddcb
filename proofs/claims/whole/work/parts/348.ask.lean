/-! ===== who can take posts: both sides ask alike ===== -/
theorem zw1 {i : Nat} (h : i < 100000) : zw ((i : Int) + 1) = ((i + 1 : Nat) : Int) := by
  rw [zw_in (by omega) (by omega)]
  omega
def fitb (S : Sg) (r : Int) (p i : Nat) : Bool := decide ((i : Int) < S 0 r 26 0) && (decide (S 0 r 30 (i : Int) = 1) && ((S 0 r 10 (p : Int)).toNat).testBit ((S 0 r 27 (i : Int)).toNat))
theorem fitb_iff {S : Sg} {r : Int} {p i : Nat} : fitb S r p i = true ↔ (i : Int) < S 0 r 26 0 ∧ S 0 r 30 (i : Int) = 1 ∧ ((S 0 r 10 (p : Int)).toNat).testBit ((S 0 r 27 (i : Int)).toNat) = true := by
  unfold fitb
  rw [Bool.and_eq_true, Bool.and_eq_true, decide_eq_true_iff, decide_eq_true_iff]
/-- the skills that are wanted -/
theorem pl_wanted {S T : Sg} {r w : Int} (hp : Rpo2 S T r w) : ∀ (c i n : Nat) (a : Nat), (i : Int) + c = S 0 r 26 0 → c < n → a < 256 → (∀ s, s < 8 → (a.testBit s = true ↔ ∃ j : Nat, j < i ∧ S 0 r 30 (j : Int) = 1 ∧ (S 0 r 27 (j : Int)).toNat = s)) → ∃ b : Nat, zf_Q_wantedSkills_4 r n (a : Int) (i : Int) S = some ((b : Int), S) ∧ b < 256 ∧ (∀ s, s < 8 → (b.testBit s = true ↔ ∃ j : Nat, (j : Int) < S 0 r 26 0 ∧ S 0 r 30 (j : Int) = 1 ∧ (S 0 r 27 (j : Int)).toNat = s))
  | _, _, 0, _, _, hn, _, _ => absurd hn (Nat.not_lt_zero _)
  | 0, i, n + 1, a, hi, hn, ha, hb => by
    rw [zf_Q_wantedSkills_4, if_pos (by omega)]
    refine ⟨a, rfl, ha, fun s hs => (hb s hs).trans ⟨?_, ?_⟩⟩
    · rintro ⟨j, x, y⟩; exact ⟨j, by omega, y⟩
    · rintro ⟨j, x, y⟩; exact ⟨j, by omega, y⟩
  | c + 1, i, n + 1, a, hi, hn, ha, hb => by
    have q := (hp.2.2 i (by omega) (by omega)).2.2.2.2.1
    have hn8 := hp.2.1
    rw [zf_Q_wantedSkills_4, if_neg (by omega), zck_b (by omega)]
    unfold zf_Q_wantedSkills_33
    by_cases ho : S 0 r 30 (i : Int) = 1
    · rw [if_pos ho, show S 0 r 27 (i : Int) = (((S 0 r 27 (i : Int)).toNat : Nat) : Int) by omega, shl1 _ (by omega)]
      generalize hs : (S 0 r 27 (i : Int)).toNat = s
      have hs8 : s < 8 := by omega
      have h2 : 2 ^ s < 256 := Nat.pow_lt_pow_right (n := 8) (by decide) hs8
      rw [zor_n (by omega) (by omega), zlt_v, zlt_v, zw1 (by omega)]
      refine pl_wanted hp c (i + 1) n (a ||| 2 ^ s) (by omega) (by omega) (Nat.or_lt_two_pow (n := 8) ha h2) (fun u hu => ?_)
      rw [Nat.testBit_or, Bool.or_eq_true, hb u hu, Nat.testBit_two_pow, decide_eq_true_iff]
      constructor
      · rintro (⟨j, x, y⟩ | x)
        · exact ⟨j, by omega, y⟩
        · exact ⟨i, by omega, ho, by omega⟩
      · rintro ⟨j, x, y, z⟩
        by_cases e : j = i
        · subst e; exact Or.inr (by omega)
        · exact Or.inl ⟨j, by omega, y, z⟩
    · rw [if_neg ho, zlt_v, zw1 (by omega)]
      refine pl_wanted hp c (i + 1) n a (by omega) (by omega) ha (fun u hu => (hb u hu).trans ⟨?_, ?_⟩)
      · rintro ⟨j, x, y⟩; exact ⟨j, by omega, y⟩
      · rintro ⟨j, x, y, z⟩
        by_cases e : j = i
        · subst e; exact absurd y ho
        · exact ⟨j, by omega, y, z⟩
theorem pf_wanted {S T : Sg} {r w : Int} (hp : Rpo2 S T r w) : ∃ b : Nat, zf_Q_wantedSkills r S = some ((b : Int), S) ∧ b < 256 ∧ (∀ s, s < 8 → (b.testBit s = true ↔ ∃ j : Nat, (j : Int) < S 0 r 26 0 ∧ S 0 r 30 (j : Int) = 1 ∧ (S 0 r 27 (j : Int)).toNat = s)) := by
  have hn8 := hp.2.1
  exact pl_wanted hp (S 0 r 26 0).toNat 0 4096 0 (by omega) (by omega) (by decide) (fun s _ => by
    rw [Nat.zero_testBit]
    constructor
    · intro h; cases h
    · rintro ⟨j, x, -⟩; omega)
/-- the reference: whether one fits a post, or any that is open -/
theorem pf_W_fits {S T : Sg} {r w : Int} {p i : Nat} (hR : Ri S T r w) (hp : (p : Int) < S 0 r 6 0) (hi : (i : Int) < S 0 r 26 0) : zf_W_fits w (i : Int) (p : Int) T = some (if ((S 0 r 10 (p : Int)).toNat).testBit ((S 0 r 27 (i : Int)).toNat) = true then 1 else 0, T) := by
  obtain ⟨-, -, hpp, hpo, -⟩ := hR
  have q := hpp.2.2 p (by omega) hp
  have qo := hpo.2.2 i (by omega) hi
  have h40 := hpp.2.1
  have h8 := hpo.2.1
  have q4 : T 5 w 4 (p : Int) = S 0 r 10 (p : Int) := q.2.2.2.1
  have q10 : 0 ≤ S 0 r 10 (p : Int) ∧ S 0 r 10 (p : Int) < 256 := q.2.2.2.2.2.2.2.2.2.2.2.2.1
  have qo1 : T 5 w 21 (i : Int) = S 0 r 27 (i : Int) := qo.1
  have qo27 : 0 ≤ S 0 r 27 (i : Int) ∧ S 0 r 27 (i : Int) < 8 := qo.2.2.2.2.1
  clear q qo
  unfold zf_W_fits
  rw [zck_b (by omega), zck_b (by omega), q4, qo1, show S 0 r 10 (p : Int) = (((S 0 r 10 (p : Int)).toNat : Nat) : Int) by omega, show S 0 r 27 (i : Int) = (((S 0 r 27 (i : Int)).toNat : Nat) : Int) by omega]
  rw [zbit_n (by omega) (by omega)]
  simp only [Int.toNat_natCast]
  rcases Bool.eq_false_or_eq_true (((S 0 r 10 (p : Int)).toNat).testBit ((S 0 r 27 (i : Int)).toNat)) with h | h
  · simp only [h, if_true]
  · simp only [h, Bool.false_eq_true, if_false]
    rfl
theorem pl_canAny {S T : Sg} {r w : Int} {p : Nat} (hR : Ri S T r w) (hp : (p : Int) < S 0 r 6 0) : ∀ (c i n : Nat), (i : Int) + c = S 0 r 26 0 → c < n → (∃ v, zf_W_canAny_2 w n (p : Int) (i : Int) T = some (v, T) ∧ (v = 1 ∧ (∃ j : Nat, i ≤ j ∧ fitb S r p j = true) ∨ v = 0 ∧ ∀ j : Nat, i ≤ j → fitb S r p j = false))
  | _, _, 0, _, hn => absurd hn (Nat.not_lt_zero _)
  | 0, i, n + 1, hi, hn => by
    have hpo := hR.2.2.2.1
    rw [zf_W_canAny_2, if_pos (by rw [hpo.1]; omega)]
    refine ⟨0, rfl, Or.inr ⟨rfl, fun j hj => ?_⟩⟩
    unfold fitb
    rw [decide_eq_false (by omega), Bool.false_and]
  | c + 1, i, n + 1, hi, hn => by
    have hpo := hR.2.2.2.1
    have h8 := hpo.2.1
    have qo : T 5 w 24 (i : Int) = S 0 r 30 (i : Int) := (hpo.2.2 i (by omega) (by omega)).2.2.2.1
    rw [zf_W_canAny_2, if_neg (by rw [hpo.1]; omega), zck_b (by omega), qo]
    unfold zf_W_canAny_31
    have nxt : fitb S r p i = false → (∃ v, zf_W_canAny_2 w n (p : Int) ((i + 1 : Nat) : Int) T = some (v, T) ∧ (v = 1 ∧ (∃ j : Nat, i ≤ j ∧ fitb S r p j = true) ∨ v = 0 ∧ ∀ j : Nat, i ≤ j → fitb S r p j = false)) := by
      intro hf
      obtain ⟨v, k1, k2⟩ := pl_canAny hR hp c (i + 1) n (by omega) (by omega)
      refine ⟨v, k1, ?_⟩
      rcases k2 with ⟨a, j, b, d⟩ | ⟨a, b⟩
      · exact Or.inl ⟨a, j, by omega, d⟩
      · refine Or.inr ⟨a, fun j hj => ?_⟩
        by_cases e : j = i
        · rw [e]; exact hf
        · exact b j (by omega)
    by_cases ho : S 0 r 30 (i : Int) = 1
    · rw [if_pos ho, pf_W_fits hR hp (by omega), zbd_s]
      cases hb : ((S 0 r 10 (p : Int)).toNat).testBit ((S 0 r 27 (i : Int)).toNat) with
      | true =>
        rw [if_pos rfl, if_neg n10]
        exact ⟨1, rfl, Or.inl ⟨rfl, i, Nat.le_refl _, fitb_iff.mpr ⟨by omega, ho, hb⟩⟩⟩
      | false =>
        rw [if_neg (show ¬ (false = true) by decide), if_pos z00, zlt_v, zw1 (by omega)]
        refine nxt ?_
        rw [Bool.eq_false_iff]
        intro h
        rw [fitb_iff, hb] at h
        exact absurd h.2.2 (by decide)
    · rw [if_neg ho, zlt_v, zw1 (by omega)]
      refine nxt ?_
      rw [Bool.eq_false_iff]
      intro h
      rw [fitb_iff] at h
      exact ho h.2.1
/-- the class's sets, by all who can so far -/
def cnC (S : Sg) (r : Int) (al i : Nat) : Nat := mks 40 (fun q => tb al q && fitb S r q i)
theorem cnC_add {S : Sg} {r : Int} {al p i : Nat} (hp : p < 40) (ha : al < 2 ^ p) : cnC S r (al ||| 2 ^ p) i = cnC S r al i ||| (if fitb S r p i = true then 2 ^ p else 0) := by
  have h2 : (if fitb S r p i = true then 2 ^ p else 0) < 2 ^ 40 := by
    split
    · exact Nat.pow_lt_pow_right (by decide) hp
    · decide
  refine tb_inj (n := 40) (mks_lt _ 40) (Nat.or_lt_two_pow (mks_lt _ 40) h2) (fun k hk => ?_)
  have e1 : tb (cnC S r (al ||| 2 ^ p) i) k = _ := mks_bit _ 40 k hk
  have e2 : tb (cnC S r al i) k = _ := mks_bit _ 40 k hk
  rw [e1, tb_or, tb_or]
  dsimp only
  rw [e2]
  have e3 : tb (2 ^ p) k = decide (p = k) := Nat.testBit_two_pow
  rw [e3]
  by_cases q : p = k
  · subst q
    rw [decide_eq_true (rfl : p = p), Bool.or_true, Bool.true_and, tb_hi ha (Nat.le_refl _), Bool.false_and, Bool.false_or]
    cases fitb S r p i with
    | true => simp [tb]
    | false => simp [tb]
  · rw [decide_eq_false q, Bool.or_false]
    have : tb (if fitb S r p i = true then 2 ^ p else 0) k = false := by
      split
      · rw [show tb (2 ^ p) k = decide (p = k) from Nat.testBit_two_pow]
        exact decide_eq_false q
      · exact Nat.zero_testBit k
    rw [this, Bool.or_false]
def CFr (S S2 : Sg) : Prop := ∀ (g : Nat) (r k : Int), ¬ (g = 3 ∧ r = 0 ∧ 7 ≤ k ∧ k ≤ 14) → ¬ g = 20 → ¬ g = 4 → S2 g r k = S g r k
def WFr (w : Int) (T T2 : Sg) : Prop := ∀ (g : Nat) (r' k j : Int), ¬ (g = 5 ∧ r' = w ∧ (35 ≤ k ∧ k ≤ 38 ∨ k = 0 ∧ 47 ≤ j ∧ j ≤ 52)) → ¬ (g = 21 ∧ r' = w) → T2 g r' k j = T g r' k j
theorem CFr.refl (S : Sg) : CFr S S := fun _ _ _ _ _ _ => rfl
theorem CFr.trans {S S2 S3 : Sg} (h : CFr S S2) (h2 : CFr S2 S3) : CFr S S3 := fun g r k a b c => (h2 g r k a b c).trans (h g r k a b c)
theorem WFr.refl (w : Int) (T : Sg) : WFr w T T := fun _ _ _ _ _ _ => rfl
theorem WFr.trans {w : Int} {S S2 S3 : Sg} (h : WFr w S S2) (h2 : WFr w S2 S3) : WFr w S S3 := fun g r k j a b => (h2 g r k j a b).trans (h g r k j a b)
theorem JF.c {S S2 : Sg} (h : JF S S2) : CFr S S2 := fun g r k a _ _ => h g r k (by omega)
theorem WF.w {w : Int} {T T2 : Sg} (h : WF w T T2) : WFr w T T2 := fun g r k j a _ => h g r k j (by omega)
theorem CFr.g {S S2 : Sg} (h : CFr S S2) {g : Nat} (hg : g ≠ 3) (hg2 : g ≠ 20) (hg4 : g ≠ 4) : S2 g = S g := by
  funext r k
  exact h g r k (by omega) hg2 hg4
theorem WFr.wk {w : Int} {T T2 : Sg} (h : WFr w T T2) : Wk T T2 w w := by
  refine Wk.eq ?_ ?_ ?_ ?_ ?_
  · intro i hi; exact h 5 w 0 i (by omega) (by omega)
  · intro k h1 h2; funext j; exact h 5 w k j (by omega) (by omega)
  · funext r k j; exact h 6 r k j (by omega) (by omega)
  · funext r k j; exact h 7 r k j (by omega) (by omega)
  · funext r k j; exact h 8 r k j (by omega) (by omega)
theorem Rw.keep2 {S T S2 T2 : Sg} {r w : Int} (h : Rw S T r w) (hj : CFr S S2) (hw : WFr w T T2) : Rw S2 T2 r w := (h.toS (hj.g (by decide) (by decide) (by decide)) (hj.g (by decide) (by decide) (by decide)) (hj.g (by decide) (by decide) (by decide)) (hj.g (by decide) (by decide) (by decide))).toT hw.wk
/-- one who can: his bit goes to all the posts that he fits -/
theorem c_ask_in {S0 : Sg} {r : Int} {al p sk : Nat} {wanted alI : Int} (q : Int → Int → Int → Sg → Option (Int × Sg)) (hp : p < 40) (ha : al < 2 ^ p) (hn8 : 0 ≤ S0 0 r 26 0 ∧ S0 0 r 26 0 ≤ 8) (hsk : ∀ i : Nat, (i : Int) < S0 0 r 26 0 → 0 ≤ S0 0 r 27 (i : Int) ∧ S0 0 r 27 (i : Int) < 8) (hs256 : sk < 256) (hbit : ∀ i : Nat, (i : Int) < S0 0 r 26 0 → S0 0 r 30 (i : Int) = 1 → (sk.testBit ((S0 0 r 27 (i : Int)).toNat) = ((S0 0 r 10 (p : Int)).toNat).testBit ((S0 0 r 27 (i : Int)).toNat))) : ∀ (c i n : Nat) (S : Sg), (i : Int) + c = S0 0 r 26 0 → c < n → S 0 = S0 0 → (∀ j : Nat, j < 8 → S 20 0 1 (j : Int) = ((if j < i then cnC S0 r (al ||| 2 ^ p) j else cnC S0 r al j : Nat) : Int)) → ∃ S2, zf_C_ask_153 r q n wanted alI (p : Int) (sk : Int) (i : Int) S = q wanted alI ((p + 1 : Nat) : Int) S2 ∧ (∀ (g : Nat) (r k : Int), ¬ (g = 20 ∧ r = 0 ∧ k = 1) → S2 g r k = S g r k) ∧ ∀ j : Nat, j < 8 → S2 20 0 1 (j : Int) = ((cnC S0 r (al ||| 2 ^ p) j : Nat) : Int)
  | _, _, 0, _, _, hn, _, _ => absurd hn (Nat.not_lt_zero _)
  | 0, i, n + 1, S, hi, hn, h0, hc => by
    rw [zf_C_ask_153, h0, if_pos (by omega)]
    unfold zf_C_ask_209
    rw [zlt_v, zw_in (x := (p : Int) + 1) (by omega) (by omega)]
    refine ⟨S, rfl, fun _ _ _ _ => rfl, fun j hj => ?_⟩
    rw [hc j hj]
    by_cases e : j < i
    · rw [if_pos e]
    · rw [if_neg e, cnC_add hp ha]
      have : fitb S0 r p j = false := by
        unfold fitb
        rw [decide_eq_false (by omega), Bool.false_and]
      rw [this]
      simp
  | c + 1, i, n + 1, S, hi, hn, h0, hc => by
    have hs := hsk i (by omega)
    rw [zf_C_ask_153, h0, if_neg (by omega), zck_b (by omega)]
    unfold zf_C_ask_203
    have h2p : 2 ^ p < 2 ^ 40 := Nat.pow_lt_pow_right (by decide) hp
    have nxt : fitb S0 r p i = false → ∃ S2, zf_C_ask_153 r q n wanted alI (p : Int) (sk : Int) ((i + 1 : Nat) : Int) S = q wanted alI ((p + 1 : Nat) : Int) S2 ∧ (∀ (g : Nat) (r k : Int), ¬ (g = 20 ∧ r = 0 ∧ k = 1) → S2 g r k = S g r k) ∧ ∀ j : Nat, j < 8 → S2 20 0 1 (j : Int) = ((cnC S0 r (al ||| 2 ^ p) j : Nat) : Int) := by
      intro hf
      refine c_ask_in q hp ha hn8 hsk hs256 hbit c (i + 1) n S (by omega) (by omega) h0 (fun j hj => ?_)
      rw [hc j hj]
      by_cases e : j = i
      · subst e
        rw [if_neg (by omega), if_pos (by omega), cnC_add hp ha, hf]
        simp
      · by_cases e2 : j < i
        · rw [if_pos e2, if_pos (by omega)]
        · rw [if_neg e2, if_neg (by omega)]
    by_cases ho : S0 0 r 30 (i : Int) = 1
    · rw [if_pos ho, show S0 0 r 27 (i : Int) = (((S0 0 r 27 (i : Int)).toNat : Nat) : Int) by omega, zbit_n (by omega) (by omega), hbit i (by omega) ho]
      cases hb : ((S0 0 r 10 (p : Int)).toNat).testBit ((S0 0 r 27 (i : Int)).toNat) with
      | true =>
        simp only [if_true]
        have hf : fitb S0 r p i = true := fitb_iff.mpr ⟨by omega, ho, hb⟩
        have hci := hc i (by omega)
        rw [if_neg (by omega)] at hci
        rw [hci, lsl1 p hp, zlor_n (by have := mks_lt (fun q => tb al q && fitb S0 r q i) 40; unfold cnC; omega) (by omega), zlt_v, zlt_v, zw1 (by omega)]
        have ec : cnC S0 r al i ||| 2 ^ p = cnC S0 r (al ||| 2 ^ p) i := by
          rw [cnC_add hp ha, hf]
          simp
        rw [ec]
        obtain ⟨S2, k1, k2, k3⟩ := c_ask_in (wanted := wanted) (alI := alI) q hp ha hn8 hsk hs256 hbit c (i + 1) n (zu S 20 0 1 (i : Int) ((cnC S0 r (al ||| 2 ^ p) i : Nat) : Int)) (by omega) (by omega) (by funext r k; rw [zu_ne (by omega), h0]) (fun j hj => by
          by_cases e : j = i
          · subst e
            rw [zu_at, if_pos (by omega)]
          · rw [zu_pl (by omega), hc j hj]
            by_cases e2 : j < i
            · rw [if_pos e2, if_pos (by omega)]
            · rw [if_neg e2, if_neg (by omega)])
        exact ⟨S2, k1, fun g r k z => (k2 g r k z).trans (zu_ne z), k3⟩
      | false =>
        simp only [Bool.false_eq_true, if_false]
        rw [if_neg (show ¬ ((0 : Int) = 1) by decide), zlt_v, zw1 (by omega)]
        refine nxt ?_
        rw [Bool.eq_false_iff]
        intro h
        rw [fitb_iff, hb] at h
        exact absurd h.2.2 (by decide)
    · rw [if_neg ho, zlt_v, zw1 (by omega)]
      refine nxt ?_
      rw [Bool.eq_false_iff]
      intro h
      rw [fitb_iff] at h
      exact ho h.2.1
/-- both sides go through the people -/
theorem pl_ask {S0 : Sg} {r w : Int} {W : Nat} (hW : W < 256) (hWb : ∀ s, s < 8 → (W.testBit s = true ↔ ∃ j : Nat, (j : Int) < S0 0 r 26 0 ∧ S0 0 r 30 (j : Int) = 1 ∧ (S0 0 r 27 (j : Int)).toNat = s)) : ∀ (c p n n2 : Nat) (al : Nat) (S T : Sg), (p : Int) + c = S0 0 r 6 0 → c < n → c < n2 → S 0 = S0 0 → Rw S T r w → al < 2 ^ p → (∀ j : Nat, j < 8 → S 20 0 1 (j : Int) = ((cnC S0 r al j : Nat) : Int)) → (∀ q, tb al q = true → ∃ j, fitb S0 r q j = true) → T 5 w 0 52 = ((cnt p (tb al) : Nat) : Int) → (∀ q, q < p → tb al q = true → T 5 w 36 ((cnt q (tb al) : Nat) : Int) = (q : Int)) →
    ∃ (al2 : Nat) (S2 T2 : Sg), zf_C_ask_68 r n (W : Int) (al : Int) (p : Int) S = some ((al2 : Int), S2) ∧ zf_W_gather_7 w n2 (p : Int) T = (zbd (zf_W_findFits w T2) fun _ S3 => some (0, S3)) ∧ (∀ (g : Nat) (r' k : Int), ¬ (g = 3 ∧ r' = 0 ∧ 7 ≤ k ∧ k ≤ 9) → ¬ (g = 20 ∧ r' = 0 ∧ k = 1) → S2 g r' k = S g r' k) ∧ (∀ (g : Nat) (r' k j : Int), ¬ (g = 5 ∧ r' = w ∧ (35 ≤ k ∧ k ≤ 36 ∨ k = 0 ∧ (47 ≤ j ∧ j ≤ 49 ∨ j = 52))) → T2 g r' k j = T g r' k j) ∧ al2 < 1099511627776 ∧ (∀ q, tb al2 q = true → (q : Int) < S0 0 r 6 0) ∧ (∀ j : Nat, j < 8 → S2 20 0 1 (j : Int) = ((cnC S0 r al2 j : Nat) : Int)) ∧ (∀ q, tb al2 q = true → ∃ j, fitb S0 r q j = true) ∧ T2 5 w 0 52 = ((cnt 40 (tb al2) : Nat) : Int) ∧ (∀ q, q < 40 → tb al2 q = true → T2 5 w 36 ((cnt q (tb al2) : Nat) : Int) = (q : Int))
  | _, _, 0, _, _, _, _, _, hn, _, _, _, _, _, _, _, _ => absurd hn (Nat.not_lt_zero _)
  | _, _, _, 0, _, _, _, _, _, hn, _, _, _, _, _, _, _ => absurd hn (Nat.not_lt_zero _)
  | 0, p, n + 1, n2 + 1, al, S, T, hp, hn, hn2, h0, hR, hal, hc, hf, h52, h36 => by
    have hpp := hR.1.2.2.1
    have hn40 := hpp.2.1
    have hw1 := hpp.1
    rw [h0] at hn40 hw1
    rw [zf_C_ask_68, h0, if_pos (by omega), zf_W_gather_7, if_pos (by omega)]
    have hal40 : al < 2 ^ 40 := Nat.lt_of_lt_of_le hal (Nat.pow_le_pow_right (by decide) (by omega))
    have e40 : cnt 40 (tb al) = cnt p (tb al) := by
      have : (40 : Nat) = p + (40 - p) := by omega
      rw [this, cnt_add, cnt_zero (f := fun k => tb al (p + k)) (fun k _ => tb_hi hal (by omega)), Nat.add_zero]
    refine ⟨al, S, T, rfl, rfl, fun _ _ _ _ _ => rfl, fun _ _ _ _ _ => rfl, hal40, fun q hq => ?_, hc, hf, by rw [e40]; exact h52, fun q hq hq2 => ?_⟩
    · by_cases z : q < p
      · omega
      · have := tb_hi hal (show p ≤ q by omega)
        rw [this] at hq
        cases hq
    · refine h36 q (Nat.lt_of_not_le (fun z => ?_)) hq2
      have := tb_hi hal z
      rw [this] at hq2
      cases hq2
  | c + 1, p, n + 1, n2 + 1, al, S, T, hp, hn, hn2, h0, hR, hal, hc, hf, h52, h36 => by
    have hsc := hR.1.1
    have hpp := hR.1.2.2.1
    have hpo := hR.1.2.2.2.1
    have hn40 := hpp.2.1
    have hn8 := hpo.2.1
    have hw1 := hpp.1
    have hwk := hsc.1
    have hwr := hsc.2.2.2.2.2.2.2.1
    have qp := hpp.2.2 p (by omega) (by rw [h0]; omega)
    have q1 : T 5 w 1 (p : Int) = S 0 r 7 (p : Int) := qp.1
    have q4 : T 5 w 4 (p : Int) = S 0 r 10 (p : Int) := qp.2.2.2.1
    have q5 : T 5 w 5 (p : Int) = S 0 r 11 (p : Int) := qp.2.2.2.2.1
    have q6 : T 5 w 6 (p : Int) = S 0 r 12 (p : Int) := qp.2.2.2.2.2.1
    have qb : -5000 ≤ S 0 r 7 (p : Int) ∧ S 0 r 7 (p : Int) ≤ S 0 r 0 0 := qp.2.2.2.2.2.2.2.2.2.1
    have qs : 0 ≤ S 0 r 10 (p : Int) ∧ S 0 r 10 (p : Int) < 256 := qp.2.2.2.2.2.2.2.2.2.2.2.2.1
    clear qp
    rw [h0] at hn40 hn8 hwr hw1
    have hpN : (p : Int) < S0 0 r 6 0 := by clear q1 q4 q5 q6 qb qs hwk h52; omega
    have hp40 : p < 40 := by clear q1 q4 q5 q6 qb qs hwk h52; omega
    have hpI : 0 ≤ (p : Int) ∧ (p : Int) < 40 := by clear q1 q4 q5 q6 qb qs hwk h52; omega
    have hb400 : -5000 ≤ S 0 r 7 (p : Int) ∧ S 0 r 7 (p : Int) ≤ 400 := by
      rw [h0] at qb ⊢
      clear q1 q4 q5 q6 qs hwk h52 hp hn hn2 hw1 hal
      omega
    -- kind
    have hk : zf_P_kind r (p : Int) (S 0 r 0 0) S = some (knd S r p (S 0 r 0 0), S) := pf_P_kind hpI hb400 (by rw [h0]; exact hwr)
    have hk2 : zf_W_kind w (p : Int) T = some (knd S r p (S 0 r 0 0), T) := by
      rw [pf_W_kind hpI (by rw [q1]; exact hb400) (by rw [hwk, h0]; exact hwr), q5, q6, q1, q4, hwk]
      rfl
    have hskp : ((S 0 r 10 (p : Int)).toNat : Int) = S 0 r 10 (p : Int) := by
      clear q1 q4 q5 q6 qb hb400 hwk h52 hp hn hn2 hw1 hal hpN
      omega
    have hsk256 : (S 0 r 10 (p : Int)).toNat < 256 := by
      clear q1 q4 q5 q6 qb hb400 hwk h52 hp hn hn2 hw1 hal hpN
      omega
    clear q1 q4 q5 q6 qb qs hb400 hwk hwr
    -- what is wanted of his skills
    have hand : zand (S 0 r 10 (p : Int)) (W : Int) = (((S 0 r 10 (p : Int)).toNat &&& W : Nat) : Int) := by
      rw [← hskp, zand_n (Nat.lt_trans hsk256 (by decide)), Int.toNat_natCast]
    clear hskp
    have hand0 : ((S 0 r 10 (p : Int)).toNat &&& W) = 0 ↔ ∀ j, fitb S0 r p j = false := by
      constructor
      · intro h j
        rw [Bool.eq_false_iff]
        intro hj
        rw [fitb_iff, ← h0] at hj
        have h27 : (0 : Int) ≤ S 0 r 27 (j : Int) ∧ S 0 r 27 (j : Int) < 8 := (hpo.2.2 j (by omega) hj.1).2.2.2.2.1
        have hb := (hWb ((S 0 r 27 (j : Int)).toNat) (by omega)).mpr ⟨j, by rw [← h0]; exact hj.1, by rw [← h0]; exact hj.2.1, by rw [← h0]⟩
        have : ((S 0 r 10 (p : Int)).toNat &&& W).testBit ((S 0 r 27 (j : Int)).toNat) = true := by
          rw [Nat.testBit_and, hj.2.2, hb]; rfl
        rw [h, Nat.zero_testBit] at this
        cases this
      · intro h
        apply Nat.eq_of_testBit_eq
        intro i
        rw [Nat.zero_testBit, Nat.testBit_and]
        by_cases hi : i < 8
        · cases hb : W.testBit i with
          | false => rw [Bool.and_false]
          | true =>
            obtain ⟨j, j1, j2, j3⟩ := (hWb i hi).mp hb
            cases hs : ((S 0 r 10 (p : Int)).toNat).testBit i with
            | false => rfl
            | true =>
              have := h j
              rw [show fitb S0 r p j = true from fitb_iff.mpr ⟨j1, j2, by rw [j3, ← h0]; exact hs⟩] at this
              cases this
        · have : W.testBit i = false := tb_hi (n := 8) hW (by omega)
          rw [this, Bool.and_false]
    have h2p : 2 ^ p < 2 ^ (p + 1) := Nat.pow_lt_pow_right (by decide) (by omega)
    -- he can't: on to the next
    have skip : ∀ (U V : Sg), JF S U → WF w T V → ∃ (al2 : Nat) (S2 T2 : Sg), zf_C_ask_68 r n (W : Int) (al : Int) ((p + 1 : Nat) : Int) U = some ((al2 : Int), S2) ∧ zf_W_gather_7 w n2 ((p + 1 : Nat) : Int) V = (zbd (zf_W_findFits w T2) fun _ S3 => some (0, S3)) ∧ (∀ (g : Nat) (r' k : Int), ¬ (g = 3 ∧ r' = 0 ∧ 7 ≤ k ∧ k ≤ 9) → ¬ (g = 20 ∧ r' = 0 ∧ k = 1) → S2 g r' k = S g r' k) ∧ (∀ (g : Nat) (r' k j : Int), ¬ (g = 5 ∧ r' = w ∧ (35 ≤ k ∧ k ≤ 36 ∨ k = 0 ∧ (47 ≤ j ∧ j ≤ 49 ∨ j = 52))) → T2 g r' k j = T g r' k j) ∧ al2 < 1099511627776 ∧ (∀ q, tb al2 q = true → (q : Int) < S0 0 r 6 0) ∧ (∀ j : Nat, j < 8 → S2 20 0 1 (j : Int) = ((cnC S0 r al2 j : Nat) : Int)) ∧ (∀ q, tb al2 q = true → ∃ j, fitb S0 r q j = true) ∧ T2 5 w 0 52 = ((cnt 40 (tb al2) : Nat) : Int) ∧ (∀ q, q < 40 → tb al2 q = true → T2 5 w 36 ((cnt q (tb al2) : Nat) : Int) = (q : Int)) := by
      intro U V hU hV
      have ec : cnt (p + 1) (tb al) = cnt p (tb al) := by
        rw [cnt, tb_hi hal (Nat.le_refl _)]; rfl
      obtain ⟨al2, S2, T2, k1, k2, k3, k4, k5⟩ := pl_ask (w := w) hW hWb c (p + 1) n n2 al U V (by omega) (by omega) (by omega) (by rw [hU.g (by decide)]; exact h0) (hR.keep hU hV) (by omega) (fun j hj => by rw [hU 20 0 1 (by omega)]; exact hc j hj) hf (by rw [hV 5 w 0 52 (by omega), ec]; exact h52) (fun q hq hq2 => by
        by_cases z : q = p
        · subst z
          rw [tb_hi hal (Nat.le_refl _)] at hq2
          cases hq2
        · rw [hV 5 w 36 _ (by omega)]; exact h36 q (by omega) hq2)
      refine ⟨al2, S2, T2, k1, k2, fun g r' k a b => (k3 g r' k a b).trans (hU g r' k a), fun g r' k j a => (k4 g r' k j a).trans (hV g r' k j (by omega)), k5⟩
    rw [zf_C_ask_68, if_neg (by rw [h0]; omega), zck_b hpI, hand, zlt_v, hk, zbd_s, zf_W_gather_7, if_neg (show ¬ T 5 w 0 1 ≤ (p : Int) by omega), hk2, zbd_s]
    unfold zf_C_ask_127 zf_C_ask_209 zf_W_gather_33 zf_W_gather_38 zf_W_gather_77
    simp only [zlt_v]
    rw [zw1 (show p < 100000 by omega)]
    -- of one who is a worker
    have worker : ∃ (al2 : Nat) (S2 T2 : Sg), (if (((S 0 r 10 (p : Int)).toNat &&& W : Nat) : Int) = 0 then zf_C_ask_68 r n (W : Int) (al : Int) ((p + 1 : Nat) : Int) S else (zbd (zf_J_allows r 1 (p : Int) S) fun a1 S2 => if a1 = 0 then zf_C_ask_68 r n (W : Int) (al : Int) ((p + 1 : Nat) : Int) S2 else zf_C_ask_153 r (zf_C_ask_68 r n) 4096 (W : Int) (zlor (al : Int) (zlsl 1 (p : Int))) (p : Int) (((S 0 r 10 (p : Int)).toNat &&& W : Nat) : Int) 0 S2)) = some ((al2 : Int), S2) ∧ (if (1 : Int) = 0 then zf_W_gather_7 w n2 ((p + 1 : Nat) : Int) T else (zbd (zf_W_canAny w (p : Int) T) fun a2 S3 => if a2 = 0 then zf_W_gather_7 w n2 ((p + 1 : Nat) : Int) S3 else (zbd (zf_W_may w (p : Int) 1 S3) fun a5 S6 => if a5 = 0 then zf_W_gather_7 w n2 ((p + 1 : Nat) : Int) S6 else (zck (0 ≤ (S6 5 w 0 52) ∧ (S6 5 w 0 52) < 40) <| zf_W_gather_7 w n2 ((p + 1 : Nat) : Int) (zu (zu S6 5 w 0 52 (zw ((S6 5 w 0 52) + 1))) 5 w 36 (S6 5 w 0 52) (p : Int)))))) = (zbd (zf_W_findFits w T2) fun _ S3 => some (0, S3)) ∧ (∀ (g : Nat) (r' k : Int), ¬ (g = 3 ∧ r' = 0 ∧ 7 ≤ k ∧ k ≤ 9) → ¬ (g = 20 ∧ r' = 0 ∧ k = 1) → S2 g r' k = S g r' k) ∧ (∀ (g : Nat) (r' k j : Int), ¬ (g = 5 ∧ r' = w ∧ (35 ≤ k ∧ k ≤ 36 ∨ k = 0 ∧ (47 ≤ j ∧ j ≤ 49 ∨ j = 52))) → T2 g r' k j = T g r' k j) ∧ al2 < 1099511627776 ∧ (∀ q, tb al2 q = true → (q : Int) < S0 0 r 6 0) ∧ (∀ j : Nat, j < 8 → S2 20 0 1 (j : Int) = ((cnC S0 r al2 j : Nat) : Int)) ∧ (∀ q, tb al2 q = true → ∃ j, fitb S0 r q j = true) ∧ T2 5 w 0 52 = ((cnt 40 (tb al2) : Nat) : Int) ∧ (∀ q, q < 40 → tb al2 q = true → T2 5 w 36 ((cnt q (tb al2) : Nat) : Int) = (q : Int)) := by
      obtain ⟨v, c1, c2⟩ := pl_canAny (p := p) hR.1 (by rw [h0]; exact hpN) (S 0 r 26 0).toNat 0 4096 (by rw [h0]; omega) (by rw [h0]; omega)
      have c1' : zf_W_canAny w (p : Int) T = some (v, T) := c1
      have eS : ∀ j, fitb S r p j = fitb S0 r p j := fun j => by unfold fitb; rw [h0]
      rw [if_neg n10, c1', zbd_s]
      rcases c2 with ⟨c2, j0, -, c3⟩ | ⟨c2, c3⟩
      · -- some post fits
        rw [eS] at c3
        have hne : ¬ (((S 0 r 10 (p : Int)).toNat &&& W : Nat) : Int) = 0 := by
          intro h
          have := hand0.mp (by omega) j0
          rw [c3] at this
          cases this
        rw [if_neg hne, c2, if_neg n10]
        obtain ⟨m, U, V, m1, m2, m3, m4, m5⟩ := pf_may 1 hR (p := (p : Int)) (by rw [h0]; omega)
        rw [m1, zbd_s, m2, zbd_s]
        by_cases hm : m = 0
        · rw [if_pos hm, if_pos hm]
          exact skip U V m4 m5
        · rw [if_neg hm, if_neg hm]
          have hpl : (2 : Nat) ^ p < 2 ^ 40 := Nat.pow_lt_pow_right (by decide) hp40
          have hall : al < 2 ^ 40 := Nat.lt_of_lt_of_le hal (Nat.pow_le_pow_right (by decide) (by omega))
          rw [lsl1 p hp40, zlor_n (by omega) (by omega)]
          have hU0 : U 0 = S0 0 := by rw [m4.g (by decide)]; exact h0
          obtain ⟨U2, u1, u2, u3⟩ := c_ask_in (S0 := S0) (r := r) (al := al) (p := p) (sk := (S 0 r 10 (p : Int)).toNat &&& W) (wanted := (W : Int)) (alI := ((al ||| 2 ^ p : Nat) : Int)) (zf_C_ask_68 r n) hp40 hal hn8 (fun i hi => by
            have := (hpo.2.2 i (by omega) (by rw [h0]; exact hi)).2.2.2.2.1
            rw [h0] at this
            exact this) (Nat.lt_of_le_of_lt Nat.and_le_left hsk256) (fun i hi ho => by
            have h27 := (hpo.2.2 i (by omega) (by rw [h0]; exact hi)).2.2.2.2.1
            rw [h0] at h27
            rw [Nat.testBit_and, (hWb ((S0 0 r 27 (i : Int)).toNat) (by omega)).mpr ⟨i, hi, ho, rfl⟩, Bool.and_true, h0]) (S0 0 r 26 0).toNat 0 4096 U (by omega) (by omega) hU0 (fun j hj => by
            rw [if_neg (Nat.not_lt_zero _), m4 20 0 1 (by omega)]
            exact hc j hj)
          rw [show ((0 : Nat) : Int) = 0 from rfl] at u1
          rw [u1]
          have v52 : V 5 w 0 52 = ((cnt p (tb al) : Nat) : Int) := by rw [m5 5 w 0 52 (by omega)]; exact h52
          have hcp := cnt_le p (tb al)
          rw [v52, zck_b (by omega), zw_in (by omega) (by omega)]
          have tbn : ∀ q, q < p → tb (al ||| 2 ^ p) q = tb al q := fun q hq => by
            rw [tb_or]
            dsimp only
            rw [show tb (2 ^ p) q = decide (p = q) from Nat.testBit_two_pow, decide_eq_false (by omega), Bool.or_false]
          have tbp : tb (al ||| 2 ^ p) p = true := by
            rw [tb_or]
            dsimp only
            rw [show tb (2 ^ p) p = decide (p = p) from Nat.testBit_two_pow, decide_eq_true rfl, Bool.or_true]
          have ecq : ∀ q, q ≤ p → cnt q (tb (al ||| 2 ^ p)) = cnt q (tb al) := fun q hq => cnt_congr q (fun k hk => tbn k (by omega))
          have ec : cnt (p + 1) (tb (al ||| 2 ^ p)) = cnt p (tb al) + 1 := by
            rw [cnt, tbp, ecq p (Nat.le_refl _)]; rfl
          have jU : ∀ (g : Nat) (r' k : Int), ¬ (g = 3 ∧ r' = 0 ∧ 7 ≤ k ∧ k ≤ 9) → ¬ (g = 20 ∧ r' = 0 ∧ k = 1) → U2 g r' k = S g r' k := fun g r' k a b => (u2 g r' k b).trans (m4 g r' k a)
          have wV : ∀ (g : Nat) (r' k j : Int), ¬ (g = 5 ∧ r' = w ∧ (35 ≤ k ∧ k ≤ 36 ∨ k = 0 ∧ (47 ≤ j ∧ j ≤ 49 ∨ j = 52))) → zu (zu V 5 w 0 52 (((cnt p (tb al) : Nat) : Int) + 1)) 5 w 36 ((cnt p (tb al) : Nat) : Int) (p : Int) g r' k j = T g r' k j := fun g r' k j a => by
            rw [← m5 g r' k j (by omega)]
            exact (if_neg (by omega)).trans (if_neg (by omega))
          have hR2 : Rw U2 (zu (zu V 5 w 0 52 (((cnt p (tb al) : Nat) : Int) + 1)) 5 w 36 ((cnt p (tb al) : Nat) : Int) (p : Int)) r w := hR.keep2 (fun g r' k a b d => jU g r' k (by omega) (by omega)) (fun g r' k j a _ => wV g r' k j (by omega))
          obtain ⟨al2, S2, T2, k1, k2, k3, k4, k5⟩ := pl_ask (w := w) hW hWb c (p + 1) n n2 (al ||| 2 ^ p) U2 _ (by omega) (by omega) (by omega) (by funext r' k; rw [u2 0 r' k (by omega)]; exact congrFun (congrFun hU0 r') k) hR2 (Nat.or_lt_two_pow (by omega) h2p) u3 (fun q hq => by
            by_cases z : q = p
            · subst z; exact ⟨j0, c3⟩
            · by_cases z2 : q < p
              · rw [tbn q z2] at hq; exact hf q hq
              · have := tb_hi (show al ||| 2 ^ p < 2 ^ (p + 1) from Nat.or_lt_two_pow (by omega) h2p) (show p + 1 ≤ q by omega)
                rw [this] at hq
                cases hq) (by rw [zu_ne (by omega), zu_at, ec]; omega) (fun q hq hq2 => by
            rw [ecq q (by omega)]
            by_cases z : q = p
            · subst z; exact zu_at ..
            · rw [tbn q (by omega)] at hq2
              have hlt := cnt_lt_of (f := tb al) (show q < p by omega) hq2
              rw [zu_pl (by omega), zu_ne (by omega), m5 5 w 36 _ (by omega)]
              exact h36 q (by omega) hq2)
          refine ⟨al2, S2, T2, k1, k2, fun g r' k a b => (k3 g r' k a b).trans (jU g r' k a b), fun g r' k j a => (k4 g r' k j a).trans (wV g r' k j a), k5⟩
      · rw [c2, if_pos z00, if_pos (by
          have := hand0.mpr (fun j => by rw [← eS]; exact c3 j (Nat.zero_le _))
          omega)]
        exact skip S T (JF.refl S) (WF.refl w T)
    by_cases h2 : knd S r p (S 0 r 0 0) = 2
    · rw [if_pos h2, if_pos h2]
      exact worker
    · rw [if_neg h2, if_neg h2, hk2, zbd_s]
      by_cases h5 : knd S r p (S 0 r 0 0) = 5
      · rw [if_pos h5, if_pos h5]
        exact worker
      · rw [if_neg h5, if_neg h5, ite_self]
        exact skip S T (JF.refl S) (WF.refl w T)
