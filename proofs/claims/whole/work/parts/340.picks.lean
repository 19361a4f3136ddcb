/-! ===== the crews that are picked, post by post ===== -/
/-- what a crew for post i must be, if O is to be filled -/
def Pok (hN fw : Nat → Nat) (O : Nat → Bool) (i t z : Nat) : Prop := Crw 9 hN (Fw fw) i (tb t) (tb z) ∧ Hal 9 8 hN (Fw fw) O (i + 1) (tb (t ||| z))
def Pick (hN fw : Nat → Nat) (O : Nat → Bool) (i t s : Nat) : Prop := if O i = true then Pok hN fw O i t s ∧ s < 512 ∧ ∀ z, z < s → ¬ Pok hN fw O i t z else s = 0
def Chn (hN fw : Nat → Nat) (O : Nat → Bool) (s : Nat → Nat) : Nat → Nat → Nat → Prop
  | 0, _, _ => True
  | c + 1, i, t => Pick hN fw O i t (s i) ∧ Chn hN fw O s c (i + 1) (t ||| s i)
theorem Pick.uniq {hN fw : Nat → Nat} {O : Nat → Bool} {i t a b : Nat} (h : Pick hN fw O i t a) (g : Pick hN fw O i t b) : a = b := by
  unfold Pick at h g
  cases e : O i with
  | true =>
    rw [if_pos e] at h g
    refine Nat.le_antisymm (Nat.le_of_not_lt (fun q => h.2.2 b q g.1)) (Nat.le_of_not_lt (fun q => g.2.2 a q h.1))
  | false =>
    rw [if_neg (by rw [e]; decide)] at h g
    omega
theorem Chn.uniq {hN fw : Nat → Nat} {O : Nat → Bool} {s u : Nat → Nat} : ∀ (c i t : Nat), Chn hN fw O s c i t → Chn hN fw O u c i t → ∀ q, i ≤ q → q < i + c → s q = u q
  | 0, i, t, _, _, q, a, b => by omega
  | c + 1, i, t, h, g, q, a, b => by
    have e := h.1.uniq g.1
    by_cases z : q = i
    · subst z; exact e
    · exact Chn.uniq c (i + 1) (t ||| s i) h.2 (by rw [e]; exact g.2) q (by omega) (by omega)
theorem Chn.congr {hN fw : Nat → Nat} {O : Nat → Bool} {s u : Nat → Nat} : ∀ (c i t : Nat), (∀ q, i ≤ q → s q = u q) → Chn hN fw O s c i t → Chn hN fw O u c i t
  | 0, _, _, _, _ => trivial
  | c + 1, i, t, e, h => by
    have ei := e i (Nat.le_refl _)
    refine ⟨by rw [← ei]; exact h.1, ?_⟩
    rw [← ei]
    exact Chn.congr c (i + 1) _ (fun q a => e q (by omega)) h.2
theorem pok_lt {hN fw : Nat → Nat} {O : Nat → Bool} {i t z : Nat} (hf : fw i < 512) (h : Pok hN fw O i t z) : Sb z (nd (fw i) t) ∧ cnt 9 (tb z) = hN i ∧ z ≤ fw i := by
  have := (crw_iff hf).mp h.1
  exact ⟨this.1, this.2, Nat.le_trans this.1.le (nd_le _ _)⟩
/-- the least of the parts of f, from x on, with which the best is reached -/
def LsP (hN : Nat → Nat) (S : Sg) (i t z : Nat) : Prop := cnt 9 (tb z) = hN i ∧ ∃ v w : Nat, S 4 ((i + 1 : Nat) : Int) 0 ((t ||| z : Nat) : Int) = (v : Int) ∧ S 4 (i : Int) 0 (t : Int) = (w : Int) ∧ gd i + v = w
def LsR (hN : Nat → Nat) (S : Sg) (i t f x r : Nat) : Prop := (r ≠ 0 ∧ Sb r f ∧ x ≤ r ∧ LsP hN S i t r ∧ ∀ z, Sb z f → x ≤ z → z < r → ¬ LsP hN S i t z) ∨ (r = 0 ∧ ∀ z, Sb z f → x ≤ z → ¬ LsP hN S i t z)
theorem c_least_go {hN fw : Nat → Nat} {S : Sg} {i t f w : Nat} (hc : Cw hN fw S) (hi : i < 8) (ht : t < 512) (hf : f < 512) (hw : S 4 (i : Int) 0 (t : Int) = (w : Int)) (hV : ∀ z, Sb z f → cnt 9 (tb z) = hN i → ∃ v : Nat, S 4 ((i + 1 : Nat) : Int) 0 ((t ||| z : Nat) : Int) = (v : Int) ∧ v ≤ 2303) (d n x k : Nat) (hx : Sb x f) (h0 : 0 < x) (hd : f - x ≤ d) (hk : k < x) (hn : d + 1 < n) (rec : ∀ (n2 x2 k2 : Nat), x < x2 → (Sb x2 f ∧ x2 ≤ f) → (n2 + 1 = n ∧ k2 = k + 1) → ∃ r : Nat, zf_C_leastSet_20 n2 (i : Int) (t : Int) (f : Int) (x2 : Int) (k2 : Int) S = some ((r : Int), S) ∧ LsR hN S i t f x2 r) : ∃ r : Nat, zf_C_leastSet_20 n (i : Int) (t : Int) (f : Int) (x : Int) (k : Int) S = some ((r : Int), S) ∧ LsR hN S i t f x r := by
  have hxf := hx.le
  obtain ⟨n, rfl⟩ : ∃ n', n = n' + 1 := ⟨n - 1, by omega⟩
  have gi : gd i ≤ 384 := by
    have : ∀ i, i < 8 → gd i ≤ 384 := by decide
    exact this i hi
  have nxt : ¬ LsP hN S i t x → ∃ r : Nat, zf_C_leastSet_79 (zf_C_leastSet_20 n) (i : Int) (t : Int) (f : Int) (x : Int) (k : Int) S = some ((r : Int), S) ∧ LsR hN S i t f x r := by
    intro hno
    unfold zf_C_leastSet_79
    rw [zlt_v, zlt_v, nx_int hf hxf, zw_in (x := (k : Int) + 1) (by omega) (by omega)]
    by_cases e : x = f
    · subst e
      have e0 : (x + 512 - x) &&& x = 0 := by
        rw [show x + 512 - x = 512 by omega]
        exact and512 ⟨x, hf⟩
      rw [e0]
      obtain ⟨n, rfl⟩ : ∃ n', n = n' + 1 := ⟨n - 1, by omega⟩
      rw [zf_C_leastSet_20, if_neg (by omega), if_pos (show ((0 : Nat) : Int) = 0 from rfl)]
      refine ⟨0, rfl, Or.inr ⟨rfl, fun z hz hz2 => ?_⟩⟩
      have := hz.le
      have e3 : z = x := by omega
      rw [e3]
      exact hno
    · obtain ⟨o1, o2⟩ := nx_ord 9 x f hf hx e
      have o3 : Sb ((x + 512 - f) &&& f) f := sb_and _ _
      obtain ⟨r, r1, r2⟩ := rec n ((x + 512 - f) &&& f) (k + 1) o1 ⟨o3, o3.le⟩ ⟨rfl, rfl⟩
      refine ⟨r, by rw [← r1]; rfl, ?_⟩
      rcases r2 with ⟨q0, q1, q2, q3, q4⟩ | ⟨q0, q4⟩
      · refine Or.inl ⟨q0, q1, Nat.le_trans (Nat.le_of_lt o1) q2, q3, fun z hz hz2 hz3 => ?_⟩
        by_cases ez : z = x
        · rw [ez]; exact hno
        · exact q4 z hz (o2 z hz (by omega)) hz3
      · refine Or.inr ⟨q0, fun z hz hz2 => ?_⟩
        by_cases ez : z = x
        · rw [ez]; exact hno
        · exact q4 z hz (o2 z hz (by omega))
  rw [zf_C_leastSet_20, if_neg (by omega), if_neg (by omega), pf_Ji_bitCount, zbc9 (by omega), zbd_s, zck_b (by omega), (hc i hi).1]
  by_cases hq : cnt 9 (tb x) = hN i
  · obtain ⟨v, v1, v2⟩ := hV x hx hq
    unfold zf_C_goodOf
    have ho : t ||| x < 512 := or_512 ht (by omega)
    rw [if_pos (by rw [hq]), zbd_s, gd_int i hi, zw_in (x := (i : Int) + 1) (by omega) (by omega), zck_b (by omega), zor_n (by omega) (by omega), zck_b (by omega), zck_b (by omega), zck_b (by omega), show ((i : Int) + 1) = ((i + 1 : Nat) : Int) by omega, v1, zw_in (x := (gd i : Int) + (v : Int)) (by omega) (by omega), hw]
    by_cases he : gd i + v = w
    · rw [if_pos (by omega)]
      exact ⟨x, rfl, Or.inl ⟨by omega, hx, Nat.le_refl _, ⟨hq, v, w, v1, hw, he⟩, fun z _ a b => by omega⟩⟩
    · rw [if_neg (by omega)]
      refine nxt (fun ⟨_, v', w', a, b, c⟩ => he ?_)
      rw [v1] at a
      rw [hw] at b
      omega
  · rw [if_neg (by omega)]
    exact nxt (fun q => hq q.1)
theorem c_least {hN fw : Nat → Nat} {S : Sg} {i t f w : Nat} (hc : Cw hN fw S) (hi : i < 8) (ht : t < 512) (hf : f < 512) (hw : S 4 (i : Int) 0 (t : Int) = (w : Int)) (hV : ∀ z, Sb z f → cnt 9 (tb z) = hN i → ∃ v : Nat, S 4 ((i + 1 : Nat) : Int) 0 ((t ||| z : Nat) : Int) = (v : Int) ∧ v ≤ 2303) : ∀ (d n x k : Nat), Sb x f → 0 < x → f - x ≤ d → k < x → d + 1 < n → ∃ r : Nat, zf_C_leastSet_20 n (i : Int) (t : Int) (f : Int) (x : Int) (k : Int) S = some ((r : Int), S) ∧ LsR hN S i t f x r
  | 0, n, x, k, hx, h0, hd, hk, hn => c_least_go hc hi ht hf hw hV 0 n x k hx h0 hd hk hn (fun n2 x2 k2 h1 h2 h3 => by omega)
  | d + 1, n, x, k, hx, h0, hd, hk, hn => c_least_go hc hi ht hf hw hV (d + 1) n x k hx h0 hd hk hn (fun n2 x2 k2 h1 h2 h3 => c_least hc hi ht hf hw hV d n2 x2 k2 h2.1 (by omega) (by omega) (by omega) (by omega))
/-- the table of all posts from i on is right -/
def Gall (hN fw : Nat → Nat) (m : Nat) (S : Sg) : Prop := ∀ j u, j ≤ 8 → u < 2 ^ m → Gw hN fw S j u
theorem pf_leastSet {hN fw : Nat → Nat} {S : Sg} {i t m : Nat} {O : Nat → Bool} (hc : Cw hN fw S) (hi : i < 8) (hm : m ≤ 9) (hfw : ∀ i, i < 8 → fw i < 2 ^ m) (hG : Gall hN fw m S) (ht : t < 2 ^ m) (hO : OptA hN (Fw fw) O i (tb t)) (hi2 : O i = true) : ∃ s : Nat, zf_C_leastSet (i : Int) (t : Int) S = some ((s : Int), S) ∧ Pick hN fw O i t s ∧ s < 2 ^ m := by
  have p9 : 2 ^ m ≤ 512 := Nat.pow_le_pow_right (show 2 > 0 by decide) hm
  have hfi := hfw i hi
  have hf512 : fw i < 512 := by omega
  have hnd : nd (fw i) t < 512 := Nat.lt_of_le_of_lt (nd_le _ _) hf512
  obtain ⟨w, w1, w2⟩ := hG i t (by omega) ht
  have ew : w = ned gd 8 (Frm O i) := w2.uniq hO.2.2
  have hV : ∀ z, Sb z (nd (fw i) t) → ∃ v : Nat, S 4 ((i + 1 : Nat) : Int) 0 ((t ||| z : Nat) : Int) = (v : Int) ∧ Mx hN (Fw fw) (i + 1) (fun k => tb t k || tb z k) v ∧ z < 2 ^ m := fun z hz => by
    have zl : z < 2 ^ m := Nat.lt_of_le_of_lt (Nat.le_trans hz.le (nd_le _ _)) hfi
    obtain ⟨a, a1, a2⟩ := hG (i + 1) (t ||| z) (by omega) (Nat.or_lt_two_pow ht zl)
    rw [tb_or] at a2
    exact ⟨a, a1, a2, zl⟩
  -- what the class asks of a part is what the reference asks
  have iff : ∀ z, Sb z (nd (fw i) t) → (LsP hN S i t z ↔ Pok hN fw O i t z) := by
    intro z hz
    obtain ⟨v, v1, v2, -⟩ := hV z hz
    unfold LsP Pok
    constructor
    · rintro ⟨h1, v', w', h2, h3, h4⟩
      have hs : Crw 9 hN (Fw fw) i (tb t) (tb z) := (crw_iff hf512).mpr ⟨hz, h1⟩
      refine ⟨hs, ?_⟩
      rw [tb_or]
      refine (opt_crew hi hO hi2 hs v2).1.mp ?_
      rw [v1] at h2
      rw [w1] at h3
      omega
    · rintro ⟨hs, h2⟩
      refine ⟨((crw_iff hf512).mp hs).2, v, w, v1, w1, ?_⟩
      rw [tb_or] at h2
      rw [(opt_crew hi hO hi2 hs v2).1.mpr h2, ew]
  unfold zf_C_leastSet
  rw [zck_b (by omega), (hc i hi).2.1, zandn_n (by omega), zlt_v, zlt_v, nx0_int hnd]
  have ex : ∃ z, Pok hN fw O i t z := by
    obtain ⟨s, s1, s2⟩ := hal_step hi hi2 hO.2.1
    have es := crw_mask s1
    refine ⟨mks 9 s, by rw [← es]; exact s1, ?_⟩
    rw [tb_or, ← es]
    exact s2
  obtain ⟨z0, hz0⟩ := ex
  have hz1 := pok_lt hf512 hz0
  have hh := (hO.1 i hi2).2.2
  have zpos : ∀ z, Pok hN fw O i t z → 0 < z := by
    intro z hz
    refine Nat.pos_of_ne_zero (fun q => ?_)
    have := (pok_lt hf512 hz).2.1
    rw [q, cnt_tb0] at this
    omega
  have z0p := zpos z0 hz0
  have hfpos : nd (fw i) t ≠ 0 := by
    have := hz1.1.le
    omega
  obtain ⟨o1, o2⟩ := nx_ord 9 0 (nd (fw i) t) hnd (sb_0 _) (fun q => hfpos q.symm)
  have o3 : Sb ((0 + 512 - nd (fw i) t) &&& nd (fw i) t) (nd (fw i) t) := sb_and _ _
  obtain ⟨r, r1, r2⟩ := c_least hc hi (show t < 512 by omega) hnd w1 (fun z hz _ => by
    obtain ⟨v, v1, v2, -⟩ := hV z hz
    exact ⟨v, v1, mx_le v2⟩) 512 4096 _ 0 o3 o1 (by omega) o1 (by omega)
  refine ⟨r, r1, ?_⟩
  unfold Pick
  rw [if_pos hi2]
  rcases r2 with ⟨q0, q1, q2, q3, q4⟩ | ⟨q0, q4⟩
  · have rp := (iff r q1).mp q3
    have rl := (hV r q1).choose_spec.2.2
    refine ⟨⟨rp, by omega, fun z hz hp => ?_⟩, rl⟩
    have h1 := pok_lt hf512 hp
    exact q4 z h1.1 (o2 z h1.1 (zpos z hp)) hz ((iff z h1.1).mpr hp)
  · exact absurd ((iff z0 hz1.1).mpr hz0) (q4 z0 hz1.1 (o2 z0 hz1.1 z0p))
/-- the people of a set of numbers -/
def ppl (who : Nat → Nat) (s : Nat) : Nat → Nat
  | 0 => 0
  | k + 1 => ppl who s k ||| (if s.testBit k then 2 ^ who k else 0)
theorem ppl_lt {who : Nat → Nat} {s : Nat} : ∀ {m : Nat}, (∀ k, k < m → who k < 40) → ppl who s m < 1099511627776
  | 0, _ => by simp [ppl]
  | m + 1, h => by
    have h1 := ppl_lt (s := s) (m := m) (fun k hk => h k (by omega))
    unfold ppl
    refine Nat.or_lt_two_pow (n := 40) h1 ?_
    split
    · exact Nat.pow_lt_pow_right (by decide) (h m (by omega))
    · decide
theorem pl_peopleOf {who : Nat → Nat} {S : Sg} {s m : Nat} (hm : m ≤ 9) (hs : s < 512) (hw : ∀ k, k < m → S 3 0 13 (k : Int) = (who k : Int) ∧ who k < 40) : ∀ (c k n : Nat), k + c = m → c < n → zf_C_peopleOf_5 n (s : Int) (m : Int) ((ppl who s k : Nat) : Int) (k : Int) S = some (((ppl who s m : Nat) : Int), S)
  | _, _, 0, _, hn => absurd hn (Nat.not_lt_zero _)
  | 0, k, n + 1, hk, hn => by
    rw [zf_C_peopleOf_5, if_pos (by omega), show k = m by omega]
  | c + 1, k, n + 1, hk, hn => by
    have hk9 : k < 9 := by omega
    have hwk := hw k (by omega)
    have hp := ppl_lt (who := who) (s := s) (m := k) (fun j hj => (hw j (by omega)).2)
    have ih := pl_peopleOf hm hs hw c (k + 1) n (by omega) (by omega)
    rw [zf_C_peopleOf_5, if_neg (by omega), zbit_n (by omega) (by omega)]
    unfold zf_C_peopleOf_33
    have e1 : zw ((k : Int) + 1) = ((k + 1 : Nat) : Int) := by rw [zw_in (by omega) (by omega)]; omega
    have e2 : ppl who s (k + 1) = ppl who s k ||| (if s.testBit k then 2 ^ who k else 0) := rfl
    rw [e2] at ih
    cases q : s.testBit k with
    | true =>
      rw [q] at ih
      simp only [if_true] at ih ⊢
      rw [zck_b (by omega), hwk.1, lsl1 _ hwk.2, zlor_n (by omega) (by
        have : 2 ^ who k < 2 ^ 40 := Nat.pow_lt_pow_right (by decide) hwk.2
        omega), zlt_v, zlt_v, e1]
      exact ih
    | false =>
      rw [q] at ih
      simp only [Bool.false_eq_true, if_false, Nat.or_zero] at ih ⊢
      rw [if_neg (by decide), zlt_v, e1]
      exact ih
theorem pf_peopleOf {who : Nat → Nat} {S : Sg} {s m : Nat} (hm : m ≤ 9) (hs : s < 512) (hw : ∀ k, k < m → S 3 0 13 (k : Int) = (who k : Int) ∧ who k < 40) : zf_C_peopleOf (s : Int) (m : Int) S = some (((ppl who s m : Nat) : Int), S) := pl_peopleOf hm hs hw m 0 4096 (by omega) (by omega)
def Wc (S S2 : Sg) : Prop := ∀ (g : Nat) (r k : Int), ¬ (g = 20 ∧ r = 0 ∧ k = 0) → S2 g r k = S g r k
theorem c_fillBest {hN fw who : Nat → Nat} {m : Nat} {O : Nat → Bool} (hm : m ≤ 9) (hfw : ∀ i, i < 8 → fw i < 2 ^ m) : ∀ (c i t n : Nat) (S : Sg), i + c = 8 → c < n → t < 2 ^ m → Cw hN fw S → Gall hN fw m S → (∀ k, k < m → S 3 0 13 (k : Int) = (who k : Int) ∧ who k < 40) → OptA hN (Fw fw) O i (tb t) → ∃ S2, ∃ s : Nat → Nat, zf_C_fillBest_19 n (m : Int) (t : Int) (i : Int) S = some (0, S2) ∧ Wc S S2 ∧ Chn hN fw O s c i t ∧ (∀ q, i ≤ q → q < 8 → s q < 512 ∧ S2 20 0 0 (q : Int) = ((ppl who (s q) m : Nat) : Int)) ∧ ∀ q : Int, q < i → S2 20 0 0 q = S 20 0 0 q
  | _, _, _, 0, _, _, hn, _, _, _, _, _ => absurd hn (Nat.not_lt_zero _)
  | 0, i, t, n + 1, S, hi, hn, ht, hc, hG, hw, hO => by
    rw [zf_C_fillBest_19, if_pos (by omega)]
    exact ⟨S, fun _ => 0, rfl, fun _ _ _ _ => rfl, trivial, fun q a b => by omega, fun _ _ => rfl⟩
  | c + 1, i, t, n + 1, S, hi, hn, ht, hc, hG, hw, hO => by
    have p9 : 2 ^ m ≤ 512 := Nat.pow_le_pow_right (show 2 > 0 by decide) hm
    have hi8 : i < 8 := by omega
    obtain ⟨w, w1, w2⟩ := hG i t (by omega) ht
    obtain ⟨w', w1', w2'⟩ := hG (i + 1) t (by omega) ht
    have ew : w = ned gd 8 (Frm O i) := w2.uniq hO.2.2
    -- with the set that was picked
    have go : ∀ x : Nat, Pick hN fw O i t x → x < 2 ^ m → OptA hN (Fw fw) O (i + 1) (tb (t ||| x)) → ∃ S2, ∃ s : Nat → Nat, zf_C_fillBest_63 (zf_C_fillBest_19 n) (m : Int) (t : Int) (i : Int) (x : Int) S = some (0, S2) ∧ Wc S S2 ∧ Chn hN fw O s (c + 1) i t ∧ (∀ q, i ≤ q → q < 8 → s q < 512 ∧ S2 20 0 0 (q : Int) = ((ppl who (s q) m : Nat) : Int)) ∧ ∀ q : Int, q < i → S2 20 0 0 q = S 20 0 0 q := by
      intro x hx hx2 hO2
      unfold zf_C_fillBest_63
      rw [zor_n (by omega) (by omega), zlt_v, pf_peopleOf hm (by omega) hw, zbd_s, zck_b (by omega), zlt_v, zlt_v, zw_in (x := (i : Int) + 1) (by omega) (by omega)]
      have w0 : Wc S (zu S 20 0 0 (i : Int) ((ppl who x m : Nat) : Int)) := fun g r k z => zu_ne z
      obtain ⟨S2, s, k1, k2, k3, k4, k5⟩ := c_fillBest (hN := hN) (who := who) (O := O) hm hfw c (i + 1) (t ||| x) n (zu S 20 0 0 (i : Int) ((ppl who x m : Nat) : Int)) (by omega) (by omega) (Nat.or_lt_two_pow ht hx2) (fun j hj => by
        rw [w0 3 0 11 (by omega), w0 3 0 14 (by omega)]
        exact hc j hj) (fun j u a b => by
        obtain ⟨v, v1, v2⟩ := hG j u a b
        exact ⟨v, by rw [w0 4 j 0 (by omega)]; exact v1, v2⟩) (fun k hk => by rw [w0 3 0 13 (by omega)]; exact hw k hk) hO2
      refine ⟨S2, fun q => if q = i then x else s q, ?_, fun g r k z => (k2 g r k z).trans (w0 g r k z), ⟨?_, ?_⟩, fun q a b => ?_, fun q hq => ?_⟩
      · rw [← k1]; rfl
      · simp only [if_true]; exact hx
      · simp only [if_true]
        exact k3.congr c (i + 1) _ (fun q hq => by rw [if_neg (by omega)])
      · by_cases e : q = i
        · subst e
          simp only [if_true]
          exact ⟨by omega, by rw [k5 q (by omega), zu_at]⟩
        · simp only [if_neg e]
          exact k4 q (by omega) b
      · rw [k5 q (by omega), zu_pl (by omega)]
    rw [zf_C_fillBest_19, if_neg (by omega), zck_b (by omega), zck_b (by omega), zw_in (x := (i : Int) + 1) (by omega) (by omega), zck_b (by omega), show ((i : Int) + 1) = ((i + 1 : Nat) : Int) by omega, w1, w1']
    cases e : O i with
    | false =>
      obtain ⟨h1, h2⟩ := opt_skip hi8 hO e w2'
      rw [if_pos (by omega)]
      have := go 0 (by unfold Pick; rw [if_neg (by rw [e]; decide)]) (Nat.pow_pos (by decide)) (by rw [Nat.or_zero]; exact h2)
      exact this
    | true =>
      have h1 := opt_take hi8 hO e w2'
      rw [if_neg (by omega)]
      obtain ⟨x, x1, x2, x3⟩ := pf_leastSet hc hi8 hm hfw hG ht hO e
      rw [x1, zbd_s]
      refine go x x2 x3 ?_
      unfold Pick at x2
      rw [if_pos e] at x2
      obtain ⟨v, v1, v2⟩ := hG (i + 1) (t ||| x) (by omega) (Nat.or_lt_two_pow ht x3)
      rw [tb_or] at v2 ⊢
      have := x2.1.2
      rw [tb_or] at this
      exact (opt_crew hi8 hO e x2.1.1 v2).2 this
