/-! ===== crews in turn: the least hands that are free ===== -/
theorem cnt_shift (f : Nat → Bool) : ∀ k, cnt (k + 1) f = (f 0).toNat + cnt k (fun j => f (j + 1))
  | 0 => by simp [cnt]
  | k + 1 => by
    rw [cnt, cnt_shift f k]
    rw [show cnt (k + 1) (fun j => f (j + 1)) = cnt k (fun j => f (j + 1)) + (f (k + 1)).toNat from rfl]
    omega
theorem tb2 {a p k : Nat} (hp : p < 2) : (2 * a + p).testBit (k + 1) = a.testBit k := by
  rw [Nat.testBit_succ, show (2 * a + p) / 2 = a by omega]
/-- the lowest bit goes -/
theorem clr_bit : ∀ (k r : Nat), 0 < r → (r &&& (r - 1)).testBit k = (r.testBit k && decide (0 < cnt k (tb r)))
  | 0, r, h => by
    obtain ⟨a, p, hp, e⟩ := half r
    subst e
    have h1 : p = 0 ∨ p = 1 := by omega
    rcases h1 with e | e <;> subst e
    · rw [Nat.testBit_and, Nat.testBit_zero]
      simp
    · rw [show 2 * a + 1 - 1 = 2 * a + 0 by omega, and2 (by decide) (by decide), show (1 : Nat) &&& 0 = 0 from rfl, Nat.testBit_zero, Nat.testBit_zero]
      simp [cnt]
  | k + 1, r, h => by
    obtain ⟨a, p, hp, e⟩ := half r
    subst e
    have h1 : p = 0 ∨ p = 1 := by omega
    have e0 : ∀ p, p < 2 → cnt (k + 1) (tb (2 * a + p)) = (tb (2 * a + p) 0).toNat + cnt k (tb a) := by
      intro p hp
      rw [cnt_shift]
      congr 1
      refine cnt_congr k (fun j _ => ?_)
      exact tb2 hp
    rcases h1 with e | e <;> subst e
    · rw [show 2 * a + 0 - 1 = 2 * (a - 1) + 1 by omega, and2 (by decide) (by decide), show (0 : Nat) &&& 1 = 0 from rfl, tb2 (by decide), tb2 (by decide), clr_bit k a (by omega), e0 0 (by decide)]
      congr 2
      have : tb (2 * a + 0) 0 = false := by
        unfold tb
        rw [Nat.testBit_zero]
        simp
      rw [this]
      simp
    · rw [show 2 * a + 1 - 1 = 2 * a + 0 by omega, and2 (by decide) (by decide), show (1 : Nat) &&& 0 = 0 from rfl, tb2 (by decide), tb2 (by decide), e0 1 (by decide)]
      have : tb (2 * a + 1) 0 = true := by
        unfold tb
        rw [Nat.testBit_zero]
        simp
      rw [this, Nat.and_self]
      simp
      omega
theorem cnt_drop (f : Nat → Bool) (j : Nat) : ∀ k, cnt k (fun x => f x && decide (j ≤ cnt x f)) = cnt k f - j
  | 0 => by simp [cnt]
  | k + 1 => by
    rw [cnt, cnt_drop f j k, cnt]
    cases e : f k with
    | false => simp
    | true =>
      by_cases q : j ≤ cnt k f
      · rw [decide_eq_true q]; simp; omega
      · rw [decide_eq_false q]; simp; omega
/-- the least h of a set -/
def lws (f h : Nat) : Nat := mks 40 (fun k => tb f k && decide (cnt k (tb f) < h))
theorem lws_lt (f h : Nat) : lws f h < 1099511627776 := mks_lt _ 40
def Rdr (f j r : Nat) : Prop := ∀ k, tb r k = (tb f k && decide (j ≤ cnt k (tb f)))
theorem c_lowest {f h : Nat} {S : Sg} (hf : f < 1099511627776) (hh : h ≤ cnt 40 (tb f)) (hh2 : h ≤ 3) : ∀ (c j n r : Nat), j + c = h → c < n → Rdr f j r → r < 1099511627776 → zf_C_lowest_5 n (f : Int) (h : Int) (r : Int) (j : Int) S = some (((lws f h : Nat) : Int), S)
  | _, _, 0, _, _, hn, _, _ => absurd hn (Nat.not_lt_zero _)
  | 0, j, n + 1, r, hj, hn, hr, hr2 => by
    have e : j = h := by omega
    subst e
    rw [zf_C_lowest_5, if_pos (by omega), zlndn_n (by omega)]
    congr 3
    refine tb_inj (n := 40) (Nat.lt_of_le_of_lt (nd_le _ _) hf) (mks_lt _ 40) (fun k hk => ?_)
    have e1 : tb (lws f j) k = _ := mks_bit _ 40 k hk
    rw [e1]
    show (nd f r).testBit k = _
    rw [nd_bit]
    have e2 := hr k
    unfold tb at e2 ⊢
    rw [e2]
    cases f.testBit k with
    | false => rfl
    | true =>
      simp only [Bool.true_and]
      rw [Bool.eq_iff_iff, decide_eq_true_iff, Bool.not_eq_true', decide_eq_false_iff_not]
      omega
  | c + 1, j, n + 1, r, hj, hn, hr, hr2 => by
    have hpos : 0 < r := by
      refine Nat.pos_of_ne_zero (fun q => ?_)
      subst q
      have h1 := cnt_drop (tb f) j 40
      rw [cnt_zero (fun k _ => by rw [← hr k]; exact Nat.zero_testBit k)] at h1
      omega
    have e1 : zw ((j : Int) + 1) = ((j + 1 : Nat) : Int) := by rw [zw_in (by omega) (by omega)]; omega
    rw [zf_C_lowest_5, if_neg (by omega), zv_in (by omega) (by omega), show ((r : Int) - 1) = ((r - 1 : Nat) : Int) by omega, zlnd_n (by omega), zlt_v, zlt_v, e1]
    refine c_lowest hf hh hh2 c (j + 1) n (r &&& (r - 1)) (by omega) (by omega) (fun k => ?_) (Nat.lt_of_le_of_lt Nat.and_le_left hr2)
    show (r &&& (r - 1)).testBit k = _
    rw [clr_bit k r hpos]
    have e2 : cnt k (tb r) = cnt k (tb f) - j := by
      rw [← cnt_drop]
      exact cnt_congr k (fun x _ => hr x)
    rw [e2]
    have e3 := hr k
    unfold tb at e3 ⊢
    rw [e3]
    cases f.testBit k with
    | false => rfl
    | true =>
      simp only [Bool.true_and]
      rw [Bool.eq_iff_iff, Bool.and_eq_true, decide_eq_true_iff, decide_eq_true_iff, decide_eq_true_iff]
      omega
theorem pf_lowest {f h : Nat} {S : Sg} (hf : f < 1099511627776) (hh : h ≤ cnt 40 (tb f)) (hh2 : h ≤ 3) : zf_C_lowest (f : Int) (h : Int) S = some (((lws f h : Nat) : Int), S) := c_lowest hf hh hh2 h 0 4096 f (by omega) (by omega) (fun k => by rw [decide_eq_true (Nat.zero_le _), Bool.and_true]) hf
def stp (c h t : Nat) : Nat := if 0 < h ∧ h ≤ cnt 40 (tb (nd c t)) then lws (nd c t) h else 0
theorem stp_lt (c h t : Nat) : stp c h t < 1099511627776 := by
  unfold stp
  split
  · exact lws_lt _ _
  · decide
def Trn (can hN crew : Nat → Nat) : Nat → Nat → Nat → Prop
  | 0, _, _ => True
  | c + 1, i, t => crew i = stp (can i) (hN i) t ∧ Trn can hN crew c (i + 1) (t ||| crew i)
theorem Trn.uniq {can hN a b : Nat → Nat} : ∀ (c i t : Nat), Trn can hN a c i t → Trn can hN b c i t → ∀ q, i ≤ q → q < i + c → a q = b q
  | 0, i, t, _, _, q, x, y => by omega
  | c + 1, i, t, h, g, q, x, y => by
    have e : a i = b i := by rw [h.1, g.1]
    by_cases z : q = i
    · subst z; exact e
    · exact Trn.uniq c (i + 1) (t ||| a i) h.2 (by rw [e]; exact g.2) q (by omega) (by omega)
theorem Trn.congr {can hN a b : Nat → Nat} : ∀ (c i t : Nat), (∀ q, i ≤ q → q < i + c → a q = b q) → Trn can hN a c i t → Trn can hN b c i t
  | 0, _, _, _, _ => trivial
  | c + 1, i, t, e, h => by
    have ei := e i (Nat.le_refl _) (by omega)
    refine ⟨by rw [← ei]; exact h.1, ?_⟩
    rw [← ei]
    exact Trn.congr c (i + 1) _ (fun q x y => e q (by omega) (by omega)) h.2
theorem c_turn {can hN : Nat → Nat} (hcan : ∀ i, i < 8 → can i < 1099511627776) (hh : ∀ i, i < 8 → hN i ≤ 3) : ∀ (c i t n : Nat) (S : Sg), i + c = 8 → c < n → t < 1099511627776 → (∀ i : Nat, i < 8 → S 20 0 1 (i : Int) = (can i : Int) ∧ S 3 0 11 (i : Int) = (hN i : Int)) → ∃ S2, ∃ crew : Nat → Nat, zf_C_fillInTurn_4 n (t : Int) (i : Int) S = some (0, S2) ∧ Wc S S2 ∧ Trn can hN crew c i t ∧ (∀ q, i ≤ q → q < 8 → crew q < 1099511627776 ∧ S2 20 0 0 (q : Int) = (crew q : Int)) ∧ ∀ q : Int, q < i → S2 20 0 0 q = S 20 0 0 q
  | _, _, _, 0, _, _, hn, _, _ => absurd hn (Nat.not_lt_zero _)
  | 0, i, t, n + 1, S, hi, hn, ht, hc => by
    rw [zf_C_fillInTurn_4, if_pos (by omega)]
    exact ⟨S, fun _ => 0, rfl, fun _ _ _ _ => rfl, trivial, fun q a b => by omega, fun _ _ => rfl⟩
  | c + 1, i, t, n + 1, S, hi, hn, ht, hc => by
    have hi8 : i < 8 := by omega
    have w0 : Wc S (zu S 20 0 0 (i : Int) 0) := fun g r k z => zu_ne z
    have c1 := (hc i hi8).1
    have c2 := (hc i hi8).2
    have hci := hcan i hi8
    have hhi := hh i hi8
    have hnd : nd (can i) t < 1099511627776 := Nat.lt_of_le_of_lt (nd_le _ _) hci
    -- with the crew that was found
    have go : ∀ (U : Sg) (x : Nat), x = stp (can i) (hN i) t → Wc S U → U 20 0 0 (i : Int) = (x : Int) → (∀ q : Int, q < i → U 20 0 0 q = S 20 0 0 q) → ∃ S2, ∃ crew : Nat → Nat, zf_C_fillInTurn_80 (zf_C_fillInTurn_4 n) ((t ||| x : Nat) : Int) (i : Int) U = some (0, S2) ∧ Wc S S2 ∧ Trn can hN crew (c + 1) i t ∧ (∀ q, i ≤ q → q < 8 → crew q < 1099511627776 ∧ S2 20 0 0 (q : Int) = (crew q : Int)) ∧ ∀ q : Int, q < i → S2 20 0 0 q = S 20 0 0 q := by
      intro U x hx wU ux uq
      have xl : x < 1099511627776 := by rw [hx]; exact stp_lt _ _ _
      unfold zf_C_fillInTurn_80
      rw [zlt_v, zw_in (x := (i : Int) + 1) (by omega) (by omega)]
      obtain ⟨S2, crew, k1, k2, k3, k4, k5⟩ := c_turn hcan hh c (i + 1) (t ||| x) n U (by omega) (by omega) (Nat.or_lt_two_pow (n := 40) ht xl) (fun j hj => by rw [wU 20 0 1 (by omega), wU 3 0 11 (by omega)]; exact hc j hj)
      refine ⟨S2, fun q => if q = i then x else crew q, by rw [← k1]; rfl, fun g r k z => (k2 g r k z).trans (wU g r k z), ⟨?_, ?_⟩, fun q a b => ?_, fun q hq => ?_⟩
      · simp only [if_true]; exact hx
      · simp only [if_true]
        exact k3.congr c (i + 1) _ (fun q a _ => by rw [if_neg (by omega)])
      · by_cases e : q = i
        · subst e
          simp only [if_true]
          exact ⟨xl, by rw [k5 q (by omega), ux]⟩
        · simp only [if_neg e]
          exact k4 q (by omega) b
      · rw [k5 q (by omega), uq q hq]
    have none : stp (can i) (hN i) t = 0 → ∃ S2, ∃ crew : Nat → Nat, zf_C_fillInTurn_80 (zf_C_fillInTurn_4 n) (t : Int) (i : Int) (zu S 20 0 0 (i : Int) 0) = some (0, S2) ∧ Wc S S2 ∧ Trn can hN crew (c + 1) i t ∧ (∀ q, i ≤ q → q < 8 → crew q < 1099511627776 ∧ S2 20 0 0 (q : Int) = (crew q : Int)) ∧ ∀ q : Int, q < i → S2 20 0 0 q = S 20 0 0 q := by
      intro e
      have := go (zu S 20 0 0 (i : Int) 0) 0 e.symm w0 (zu_at ..) (fun q hq => zu_pl (by omega))
      rw [Nat.or_zero] at this
      exact this
    rw [zf_C_fillInTurn_4, if_neg (by omega), zck_b (by omega), zlt_v, w0 20 0 1 (by omega), w0 3 0 11 (by omega), c1, c2, zlndn_n (by omega), zlt_v]
    by_cases h0 : hN i = 0
    · rw [if_pos (by omega)]
      exact none (by unfold stp; rw [if_neg (by omega)])
    · rw [if_neg (by omega), pf_Jl_bitCount hnd, zbd_s, w0 3 0 11 (by omega), c2]
      by_cases hb : cnt 40 (tb (nd (can i) t)) < hN i
      · rw [if_pos (by omega)]
        exact none (by unfold stp; rw [if_neg (by omega)])
      · rw [if_neg (by omega), pf_lowest hnd (by omega) hhi, zbd_s, zlt_v, zu_at, zlor_n (by omega) (by have := lws_lt (nd (can i) t) (hN i); omega), zlt_v]
        exact go _ (lws (nd (can i) t) (hN i)) (by unfold stp; rw [if_pos ⟨by omega, by omega⟩]) (fun g r k z => by rw [zu_ne z, zu_ne z]) (zu_at ..) (fun q hq => by rw [zu_pl (by omega), zu_pl (by omega)])
theorem pf_fillInTurn {can hN : Nat → Nat} {S : Sg} (hcan : ∀ i, i < 8 → can i < 1099511627776) (hh : ∀ i, i < 8 → hN i ≤ 3) (hc : ∀ i : Nat, i < 8 → S 20 0 1 (i : Int) = (can i : Int) ∧ S 3 0 11 (i : Int) = (hN i : Int)) : ∃ S2, ∃ crew : Nat → Nat, zf_C_fillInTurn S = some (0, S2) ∧ Wc S S2 ∧ Trn can hN crew 8 0 0 ∧ (∀ q, q < 8 → crew q < 1099511627776 ∧ S2 20 0 0 (q : Int) = (crew q : Int)) := by
  obtain ⟨S2, crew, k1, k2, k3, k4, -⟩ := c_turn hcan hh 8 0 0 4096 S (by decide) (by decide) (by decide) hc
  exact ⟨S2, crew, k1, k2, k3, fun q hq => k4 q (Nat.zero_le _) hq⟩
/-- who can take any post -/
def uni (can : Nat → Nat) : Nat := can 0 ||| (can 1 ||| (can 2 ||| (can 3 ||| (can 4 ||| (can 5 ||| (can 6 ||| can 7))))))
theorem uni_lt {can : Nat → Nat} (h : ∀ i, i < 8 → can i < 1099511627776) : uni can < 1099511627776 := Nat.or_lt_two_pow (n := 40) (h 0 (by decide)) (Nat.or_lt_two_pow (n := 40) (h 1 (by decide)) (Nat.or_lt_two_pow (n := 40) (h 2 (by decide)) (Nat.or_lt_two_pow (n := 40) (h 3 (by decide)) (Nat.or_lt_two_pow (n := 40) (h 4 (by decide)) (Nat.or_lt_two_pow (n := 40) (h 5 (by decide)) (Nat.or_lt_two_pow (n := 40) (h 6 (by decide)) (h 7 (by decide))))))))
theorem uni_bit {can : Nat → Nat} {k : Nat} : tb (uni can) k = true ↔ ∃ i, i < 8 ∧ tb (can i) k = true := by
  unfold uni tb
  simp only [Nat.testBit_or, Bool.or_eq_true]
  constructor
  · rintro (h | h | h | h | h | h | h | h)
    · exact ⟨0, by decide, h⟩
    · exact ⟨1, by decide, h⟩
    · exact ⟨2, by decide, h⟩
    · exact ⟨3, by decide, h⟩
    · exact ⟨4, by decide, h⟩
    · exact ⟨5, by decide, h⟩
    · exact ⟨6, by decide, h⟩
    · exact ⟨7, by decide, h⟩
  · rintro ⟨i, hi, h⟩
    have : i = 0 ∨ i = 1 ∨ i = 2 ∨ i = 3 ∨ i = 4 ∨ i = 5 ∨ i = 6 ∨ i = 7 := by omega
    rcases this with e | e | e | e | e | e | e | e <;> subst e <;> simp only [h, true_or, or_true]
/-- what the crews must be -/
def Crs (can hN crew : Nat → Nat) : Prop := (cnt 40 (tb (uni can)) ≤ 9 → Few can hN (uni can) crew) ∧ (9 < cnt 40 (tb (uni can)) → Trn can hN crew 8 0 0)
theorem Crs.uniq {can hN a b : Nat → Nat} (h : Crs can hN a) (g : Crs can hN b) : ∀ q, q < 8 → a q = b q := by
  intro q hq
  by_cases z : cnt 40 (tb (uni can)) ≤ 9
  · exact (h.1 z).uniq (g.1 z) q hq
  · exact Trn.uniq 8 0 0 (h.2 (by omega)) (g.2 (by omega)) q (Nat.zero_le _) (by omega)
