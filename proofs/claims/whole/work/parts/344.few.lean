/-! ===== the few who can, numbered anew; the crews in turn ===== -/
theorem cnt_le_of {f : Nat → Bool} : ∀ {q p : Nat}, p ≤ q → cnt p f ≤ cnt q f
  | 0, p, h => by
    have : p = 0 := by omega
    subst this
    exact Nat.le_refl _
  | q + 1, p, h => by
    by_cases e : p = q + 1
    · subst e; exact Nat.le_refl _
    · have := cnt_le_of (f := f) (q := q) (p := p) (by omega)
      rw [cnt]
      omega
theorem cnt_lt_of {f : Nat → Bool} {p q : Nat} (h : p < q) (hp : f p = true) : cnt p f < cnt q f := by
  have := cnt_le_of (f := f) (show p + 1 ≤ q from h)
  rw [cnt, hp] at this
  simp at this
  omega
theorem cnt_surj {f : Nat → Bool} : ∀ {n k : Nat}, k < cnt n f → ∃ p, p < n ∧ f p = true ∧ cnt p f = k
  | 0, k, h => absurd h (Nat.not_lt_zero _)
  | n + 1, k, h => by
    by_cases q : k < cnt n f
    · obtain ⟨p, a, b, c⟩ := cnt_surj q
      exact ⟨p, by omega, b, c⟩
    · rw [cnt] at h
      cases e : f n with
      | true =>
        rw [e] at h
        simp at h
        exact ⟨n, by omega, e, by omega⟩
      | false =>
        rw [e] at h
        simp at h
        omega
/-- the numbers of those in a set, in their order -/
def Enm (all m : Nat) (who : Nat → Nat) : Prop := m = cnt 40 (tb all) ∧ ∀ p, p < 40 → tb all p = true → who (cnt p (tb all)) = p
theorem Enm.get {all m : Nat} {who : Nat → Nat} (h : Enm all m who) {k : Nat} (hk : k < m) : who k < 40 ∧ tb all (who k) = true ∧ cnt (who k) (tb all) = k := by
  rw [h.1] at hk
  obtain ⟨p, a, b, c⟩ := cnt_surj hk
  have := h.2 p a b
  rw [c] at this
  rw [this]
  exact ⟨a, b, c⟩
theorem Enm.uniq {all m n : Nat} {who wo : Nat → Nat} (h : Enm all m who) (g : Enm all n wo) : m = n ∧ ∀ k, k < m → who k = wo k := by
  refine ⟨by rw [h.1, g.1], fun k hk => ?_⟩
  obtain ⟨a, b, c⟩ := h.get hk
  have := g.2 _ a b
  rw [c] at this
  exact this.symm
theorem mks_or (s : Nat → Bool) (n : Nat) : mks (n + 1) s = mks n s ||| (if s n then 2 ^ n else 0) := by
  have hl := mks_lt s n
  have hl2 := mks_lt s (n + 1)
  have h0 : 2 ^ n < 2 ^ (n + 1) := Nat.pow_lt_pow_right (by decide) (by omega)
  refine tb_inj (n := n + 1) hl2 (Nat.or_lt_two_pow (by omega) (by split; exact h0; exact Nat.pow_pos (by decide))) (fun k hk => ?_)
  have e1 : tb (mks (n + 1) s) k = s k := mks_bit s (n + 1) k hk
  rw [e1, tb_or]
  dsimp only
  by_cases e : k = n
  · subst e
    rw [tb_hi hl (Nat.le_refl _)]
    cases q : s k with
    | true => simp [tb]
    | false => simp [tb]
  · have e2 : tb (mks n s) k = s k := mks_bit s n k (by omega)
    rw [e2]
    have e3 : tb (if s n then 2 ^ n else 0) k = false := by
      split
      · unfold tb
        rw [Nat.testBit_two_pow]
        exact decide_eq_false (by omega)
      · exact Nat.zero_testBit k
    rw [e3, Bool.or_false]
def Wn (S S2 : Sg) : Prop := ∀ (g : Nat) (r k : Int), ¬ (g = 3 ∧ r = 0 ∧ 13 ≤ k ∧ k ≤ 14) → S2 g r k = S g r k
theorem c_few_in {can who : Nat → Nat} {i m : Nat} (q : Int → Int → Sg → Option (Int × Sg)) (hi : i < 8) (hm : m ≤ 9) (hcan : can i < 1099511627776) : ∀ (c k n : Nat) (S : Sg), k + c = m → c < n → S 20 0 1 (i : Int) = (can i : Int) → (∀ j, j < m → S 3 0 13 (j : Int) = (who j : Int) ∧ who j < 40) → S 3 0 14 (i : Int) = ((mks k (fun j => tb (can i) (who j)) : Nat) : Int) → ∃ S2, zf_C_nameFew_67 q n (m : Int) (i : Int) (k : Int) S = q (m : Int) ((i + 1 : Nat) : Int) S2 ∧ (∀ (g : Nat) (r k j : Int), ¬ (g = 3 ∧ r = 0 ∧ k = 14 ∧ j = i) → S2 g r k j = S g r k j) ∧ S2 3 0 14 (i : Int) = ((mks m (fun j => tb (can i) (who j)) : Nat) : Int)
  | _, _, 0, _, _, hn, _, _, _ => absurd hn (Nat.not_lt_zero _)
  | 0, k, n + 1, S, hk, hn, hc, hw, hf => by
    rw [zf_C_nameFew_67, if_pos (by omega), zlt_v, zw_in (x := (i : Int) + 1) (by omega) (by omega)]
    have e : k = m := by omega
    subst e
    exact ⟨S, rfl, fun _ _ _ _ _ => rfl, hf⟩
  | c + 1, k, n + 1, S, hk, hn, hc, hw, hf => by
    have hwk := hw k (by omega)
    have hml := mks_lt (fun j => tb (can i) (who j)) k
    have p9 : 2 ^ k ≤ 2 ^ 9 := Nat.pow_le_pow_right (by decide) (by omega)
    rw [zf_C_nameFew_67, if_neg (by omega), zck_b (by omega), zck_b (by omega), zlt_v, zlt_v, hc, hwk.1, zlbit_n (by omega) (by omega), hf, zw_in (x := (k : Int) + 1) (by omega) (by omega)]
    have e : zor ((mks k (fun j => tb (can i) (who j)) : Nat) : Int) (zshl (zw (if (can i).testBit (who k) = true then 1 else 0)) (k : Int)) = ((mks (k + 1) (fun j => tb (can i) (who j)) : Nat) : Int) := by
      rw [mks_or]
      show _ = ((mks k (fun j => tb (can i) (who j)) ||| (if (can i).testBit (who k) then 2 ^ k else 0) : Nat) : Int)
      cases (can i).testBit (who k) with
      | true =>
        simp only [if_true]
        rw [show zw 1 = 1 from rfl, shl1 k (by omega), zor_n (by omega) (by omega)]
      | false =>
        simp only [Bool.false_eq_true, if_false]
        rw [show zw 0 = 0 from rfl, shl0 k (by omega), show (0 : Int) = ((0 : Nat) : Int) from rfl, zor_n (by omega) (by decide)]
    rw [e]
    obtain ⟨S2, k1, k2, k3⟩ := c_few_in (can := can) (who := who) q hi hm hcan c (k + 1) n (zu S 3 0 14 (i : Int) ((mks (k + 1) (fun j => tb (can i) (who j)) : Nat) : Int)) (by omega) (by omega) (by rw [zu_ne (by omega)]; exact hc) (fun j hj => by rw [zu_ne (by omega)]; exact hw j hj) (zu_at ..)
    refine ⟨S2, by rw [← k1]; rfl, fun g r k' j z => ?_, k3⟩
    rw [k2 g r k' j z]
    exact if_neg z
theorem c_few_out {can who : Nat → Nat} {m : Nat} (hm : m ≤ 9) (hcan : ∀ i, i < 8 → can i < 1099511627776) : ∀ (c i n : Nat) (S : Sg), i + c = 8 → c < n → (∀ i : Nat, i < 8 → S 20 0 1 (i : Int) = (can i : Int)) → (∀ j, j < m → S 3 0 13 (j : Int) = (who j : Int) ∧ who j < 40) → (∀ j : Nat, j < i → S 3 0 14 (j : Int) = ((mks m (fun k => tb (can j) (who k)) : Nat) : Int)) → ∃ S2, zf_C_nameFew_49 n (m : Int) (i : Int) S = some ((m : Int), S2) ∧ (∀ (g : Nat) (r k : Int), ¬ (g = 3 ∧ r = 0 ∧ k = 14) → S2 g r k = S g r k) ∧ (∀ j : Nat, j < 8 → S2 3 0 14 (j : Int) = ((mks m (fun k => tb (can j) (who k)) : Nat) : Int))
  | _, _, 0, _, _, hn, _, _, _ => absurd hn (Nat.not_lt_zero _)
  | 0, i, n + 1, S, hi, hn, hc, hw, hf => by
    rw [zf_C_nameFew_49, if_pos (by omega)]
    exact ⟨S, rfl, fun _ _ _ _ => rfl, fun j hj => hf j (by omega)⟩
  | c + 1, i, n + 1, S, hi, hn, hc, hw, hf => by
    rw [zf_C_nameFew_49, if_neg (by omega), zck_b (by omega), zlt_v]
    obtain ⟨S2, k1, k2, k3⟩ := c_few_in (can := can) (who := who) (i := i) (m := m) (zf_C_nameFew_49 n) (by omega) hm (hcan i (by omega)) m 0 4096 (zu S 3 0 14 (i : Int) 0) (by omega) (by omega) (by rw [zu_ne (by omega)]; exact hc i (by omega)) (fun j hj => by rw [zu_ne (by omega)]; exact hw j hj) (zu_at ..)
    rw [show ((0 : Nat) : Int) = 0 from rfl] at k1
    rw [k1]
    have k2' : ∀ (g : Nat) (r k j : Int), ¬ (g = 3 ∧ r = 0 ∧ k = 14 ∧ j = i) → S2 g r k j = S g r k j := fun g r k j z => by
      rw [k2 g r k j z]
      exact if_neg z
    obtain ⟨S3, m1, m2, m3⟩ := c_few_out (can := can) (who := who) hm hcan c (i + 1) n S2 (by omega) (by omega) (fun j hj => by rw [k2' 20 0 1 _ (by omega)]; exact hc j hj) (fun j hj => by rw [k2' 3 0 13 _ (by omega)]; exact hw j hj) (fun j hj => by
      by_cases e : j = i
      · subst e; exact k3
      · rw [k2' 3 0 14 _ (by omega)]; exact hf j (by omega))
    refine ⟨S3, m1, fun g r k z => ?_, m3⟩
    rw [m2 g r k z]
    funext j
    exact k2' g r k j (by omega)
theorem c_names {all : Nat} (ha : all < 1099511627776) (h9 : cnt 40 (tb all) ≤ 9) : ∀ (c p n : Nat) (S : Sg), p + c = 40 → c < n → (∀ q, q < p → tb all q = true → S 3 0 13 ((cnt q (tb all) : Nat) : Int) = (q : Int)) → ∃ S2, zf_C_nameFew_5 n (all : Int) ((cnt p (tb all) : Nat) : Int) (p : Int) S = zf_C_nameFew_46 ((cnt 40 (tb all) : Nat) : Int) S2 ∧ (∀ (g : Nat) (r k : Int), ¬ (g = 3 ∧ r = 0 ∧ k = 13) → S2 g r k = S g r k) ∧ (∀ q, q < 40 → tb all q = true → S2 3 0 13 ((cnt q (tb all) : Nat) : Int) = (q : Int))
  | _, _, 0, _, _, hn, _ => absurd hn (Nat.not_lt_zero _)
  | 0, p, n + 1, S, hp, hn, hw => by
    have e : p = 40 := by omega
    subst e
    rw [zf_C_nameFew_5, if_pos (by omega)]
    exact ⟨S, rfl, fun _ _ _ _ => rfl, hw⟩
  | c + 1, p, n + 1, S, hp, hn, hw => by
    have hle := cnt_le_of (f := tb all) (show p ≤ 40 by omega)
    rw [zf_C_nameFew_5, if_neg (by omega)]
    by_cases hq : 9 ≤ cnt p (tb all)
    · rw [if_pos (by omega)]
      refine ⟨S, by rw [show cnt p (tb all) = cnt 40 (tb all) by omega], fun _ _ _ _ => rfl, fun q h1 h2 => ?_⟩
      refine hw q (Nat.lt_of_not_le (fun z => ?_)) h2
      have := cnt_lt_of (f := tb all) h1 h2
      have := cnt_le_of (f := tb all) z
      omega
    · rw [if_neg (by omega), zlbit_n (by omega) (by omega)]
      unfold zf_C_nameFew_40
      have e1 : zw ((p : Int) + 1) = ((p + 1 : Nat) : Int) := by rw [zw_in (by omega) (by omega)]; omega
      cases e : all.testBit p with
      | true =>
        simp only [if_true]
        rw [if_pos (show zcmp 1 1 = 0 by decide), zck_b (by omega), zlt_v, zlt_v, zlt_v, e1, zw_in (x := ((cnt p (tb all) : Nat) : Int) + 1) (by omega) (by omega)]
        have ec : cnt (p + 1) (tb all) = cnt p (tb all) + 1 := by
          rw [cnt]
          have : tb all p = true := e
          rw [this]; rfl
        obtain ⟨S2, k1, k2, k3⟩ := c_names ha h9 c (p + 1) n (zu S 3 0 13 ((cnt p (tb all) : Nat) : Int) (p : Int)) (by omega) (by omega) (fun q h1 h2 => by
          by_cases z : q = p
          · subst z; exact zu_at ..
          · have := cnt_lt_of (f := tb all) (show q < p by omega) h2
            rw [zu_pl (by omega)]
            exact hw q (by omega) h2)
        rw [ec] at k1
        refine ⟨S2, by rw [← k1]; congr 1, fun g r k z => ?_, k3⟩
        rw [k2 g r k z]
        exact zu_ne z
      | false =>
        simp only [Bool.false_eq_true, if_false]
        rw [if_neg (show ¬ zcmp 0 1 = 0 by decide), zlt_v, e1]
        have ec : cnt (p + 1) (tb all) = cnt p (tb all) := by
          rw [cnt]
          have : tb all p = false := e
          rw [this]; rfl
        obtain ⟨S2, k1, k2, k3⟩ := c_names ha h9 c (p + 1) n S (by omega) (by omega) (fun q h1 h2 => by
          by_cases z : q = p
          · subst z
            unfold tb at h2
            rw [e] at h2
            cases h2
          · exact hw q (by omega) h2)
        rw [ec] at k1
        exact ⟨S2, k1, k2, k3⟩
theorem pf_nameFew {can : Nat → Nat} {all : Nat} {S : Sg} (ha : all < 1099511627776) (h9 : cnt 40 (tb all) ≤ 9) (hcan : ∀ i, i < 8 → can i < 1099511627776) (hc : ∀ i : Nat, i < 8 → S 20 0 1 (i : Int) = (can i : Int)) : ∃ S2 who, zf_C_nameFew (all : Int) S = some (((cnt 40 (tb all) : Nat) : Int), S2) ∧ Enm all (cnt 40 (tb all)) who ∧ (∀ k, k < cnt 40 (tb all) → S2 3 0 13 (k : Int) = (who k : Int) ∧ who k < 40) ∧ (∀ i : Nat, i < 8 → S2 3 0 14 (i : Int) = ((mks (cnt 40 (tb all)) (fun k => tb (can i) (who k)) : Nat) : Int)) ∧ Wn S S2 := by
  obtain ⟨S1, k1, k2, k3⟩ := c_names ha h9 40 0 4096 S (by decide) (by decide) (fun q h => absurd h (Nat.not_lt_zero _))
  have hE : Enm all (cnt 40 (tb all)) (fun k => (S1 3 0 13 (k : Int)).toNat) := by
    refine ⟨rfl, fun p h1 h2 => ?_⟩
    show (S1 3 0 13 ((cnt p (tb all) : Nat) : Int)).toNat = p
    rw [k3 p h1 h2]
    rfl
  have hw : ∀ k, k < cnt 40 (tb all) → S1 3 0 13 (k : Int) = (((S1 3 0 13 (k : Int)).toNat : Nat) : Int) ∧ (S1 3 0 13 (k : Int)).toNat < 40 := by
    intro k hk
    obtain ⟨p, a, b, c⟩ := cnt_surj hk
    have := k3 p a b
    rw [c] at this
    rw [this]
    exact ⟨rfl, a⟩
  obtain ⟨S2, m1, m2, m3⟩ := c_few_out (can := can) (who := fun k => (S1 3 0 13 (k : Int)).toNat) h9 hcan 8 0 4096 S1 (by decide) (by decide) (fun i hi => by rw [k2 20 0 1 (by omega)]; exact hc i hi) hw (fun j hj => absurd hj (Nat.not_lt_zero _))
  refine ⟨S2, fun k => (S1 3 0 13 (k : Int)).toNat, ?_, hE, fun k hk => by rw [m2 3 0 13 (by omega)]; exact hw k hk, m3, fun g r k z => ?_⟩
  · unfold zf_C_nameFew
    rw [show (0 : Int) = ((cnt 0 (tb all) : Nat) : Int) from rfl]
    rw [show (((0 : Nat)) : Int) = ((cnt 0 (tb all) : Nat) : Int) from rfl] at k1
    rw [k1]
    exact m1
  · rw [m2 g r k (by omega), k2 g r k (by omega)]
/-- with few who can: what the crews must be -/
def Few (can hN : Nat → Nat) (all : Nat) (crew : Nat → Nat) : Prop := ∃ (who : Nat → Nat) (O : Nat → Bool) (s : Nat → Nat), Enm all (cnt 40 (tb all)) who ∧ Best hN (Fw (fun i => mks (cnt 40 (tb all)) (fun k => tb (can i) (who k)))) O ∧ Chn hN (fun i => mks (cnt 40 (tb all)) (fun k => tb (can i) (who k))) O s 8 0 0 ∧ ∀ q, q < 8 → crew q = ppl who (s q) (cnt 40 (tb all))
theorem Best.congr {h : Nat → Nat} {F G : Nat → Nat → Bool} {O : Nat → Bool} (e : ∀ q k, q < 8 → k < 9 → F q k = G q k) (b : Best h F O) : Best h G O := by
  have t1 : ∀ {A : Nat → Bool} {i : Nat} {t : Nat → Bool}, Adm h A 0 → Hal 9 8 h F A i t → Hal 9 8 h G A i t := fun ha H => H.congr (fun _ z _ => z) (fun q k a _ hk => e q k (ha q a).2.1 hk)
  have t2 : ∀ {A : Nat → Bool} {i : Nat} {t : Nat → Bool}, Adm h A 0 → Hal 9 8 h G A i t → Hal 9 8 h F A i t := fun ha H => H.congr (fun _ z _ => z) (fun q k a _ hk => (e q k (ha q a).2.1 hk).symm)
  exact ⟨b.1, t1 b.1 b.2.1, fun A hA H => b.2.2 A hA (t2 hA H)⟩
theorem ppl_congr {who wo : Nat → Nat} {s : Nat} : ∀ {m : Nat}, (∀ k, k < m → who k = wo k) → ppl who s m = ppl wo s m
  | 0, _ => rfl
  | m + 1, h => by
    rw [ppl, ppl, ppl_congr (fun k hk => h k (by omega)), h m (by omega)]
theorem mks_congr {s u : Nat → Bool} : ∀ {n : Nat}, (∀ k, k < n → s k = u k) → mks n s = mks n u
  | 0, _ => rfl
  | n + 1, h => by
    rw [mks, mks, mks_congr (fun k hk => h k (by omega)), h n (by omega)]
theorem Few.uniq {can hN : Nat → Nat} {all : Nat} {c1 c2 : Nat → Nat} (h : Few can hN all c1) (g : Few can hN all c2) : ∀ q, q < 8 → c1 q = c2 q := by
  obtain ⟨w, O, s, a1, a2, a3, a4⟩ := h
  obtain ⟨v, P, u, b1, b2, b3, b4⟩ := g
  have ew := (a1.uniq b1).2
  have ef : (fun i => mks (cnt 40 (tb all)) (fun k => tb (can i) (w k))) = (fun i => mks (cnt 40 (tb all)) (fun k => tb (can i) (v k))) := by
    funext i
    exact mks_congr (fun k hk => by rw [ew k hk])
  rw [← ef] at b2 b3
  have eO : O = P := funext (a2.uniq b2)
  subst eO
  intro q hq
  have es := Chn.uniq 8 0 0 a3 b3 q (Nat.zero_le _) (by omega)
  rw [a4 q hq, b4 q hq, es]
  exact ppl_congr ew
