/-! ===== the class weighs all sets ===== -/
def Fw (fw : Nat → Nat) : Nat → Nat → Bool := fun q => tb (fw q)
def Gw (hN fw : Nat → Nat) (S : Sg) (i t : Nat) : Prop := ∃ v : Nat, S 4 (i : Int) 0 (t : Int) = (v : Int) ∧ Mx hN (Fw fw) i (tb t) v
/-- hands and fits, as the class holds them -/
def Cw (hN fw : Nat → Nat) (S : Sg) : Prop := ∀ i : Nat, i < 8 → S 3 0 11 (i : Int) = (hN i : Int) ∧ S 3 0 14 (i : Int) = (fw i : Int) ∧ fw i < 512 ∧ hN i ≤ 3
theorem cnt_le (n : Nat) (f : Nat → Bool) : cnt n f ≤ n := by
  induction n with
  | zero => exact Nat.le_refl _
  | succ n ih =>
    unfold cnt
    cases f n <;> simp <;> omega
theorem sco_le (A : Nat → Bool) : ned gd 8 A ≤ 2303 := by
  rw [sco_eq]
  have h1 := hor_lt A 8
  have h2 := cnt_le 8 A
  rw [show 2 ^ 8 = 256 from rfl] at h1
  omega
theorem mx_le {h : Nat → Nat} {F : Nat → Nat → Bool} {i : Nat} {t : Nat → Bool} {v : Nat} (a : Mx h F i t v) : v ≤ 2303 := by
  obtain ⟨⟨A, -, -, e⟩, -⟩ := a
  rw [← e]
  exact sco_le A
theorem crw_iff {hN fw : Nat → Nat} {i t z : Nat} (hf : fw i < 512) : Crw 9 hN (Fw fw) i (tb t) (tb z) ↔ Sb z (nd (fw i) t) ∧ cnt 9 (tb z) = hN i := by
  unfold Crw
  constructor
  · rintro ⟨h1, h2⟩
    refine ⟨Sb.of (fun k hk => ?_), h2⟩
    have := h1 k hk
    rw [nd_bit]
    unfold Fw tb at this
    rw [this.1, this.2.1]
    rfl
  · rintro ⟨h1, h2⟩
    refine ⟨fun k hk => ?_, h2⟩
    have := h1.bit hk
    rw [nd_bit, Bool.and_eq_true] at this
    refine ⟨this.1, ?_, ?_⟩
    · unfold tb
      simpa using this.2
    · refine Nat.lt_of_not_le (fun q => ?_)
      have h3 := tb_hi (n := 9) hf q
      unfold tb at h3
      rw [h3] at this
      exact absurd this.1 (by decide)
theorem crw_mask {hN : Nat → Nat} {F : Nat → Nat → Bool} {i : Nat} {t s : Nat → Bool} (h : Crw 9 hN F i t s) : s = tb (mks 9 s) := by
  funext k
  by_cases q : k < 9
  · exact (mks_bit s 9 k q).symm
  · have h1 : tb (mks 9 s) k = false := tb_hi (mks_lt s 9) (by omega)
    rw [h1]
    cases e : s k with
    | false => rfl
    | true => exact absurd (h.1 k e).2.2 q
theorem gd_int : ∀ i, i < 8 → zw (256 + zshl 1 (zw (7 - ((i : Nat) : Int)))) = ((gd i : Nat) : Int) := by decide +kernel
theorem and512 : ∀ f : Fin 512, 512 &&& f.val = 0 := by decide +kernel
theorem or_512 {a b : Nat} (ha : a < 512) (hb : b < 512) : a ||| b < 512 := Nat.or_lt_two_pow (n := 9) ha hb
/-- the parts of f, from one on: the most -/
def MsR (hN : Nat → Nat) (S : Sg) (i t f x m5 r : Nat) : Prop := m5 ≤ r ∧ r ≤ 2687 ∧ (∀ z, Sb z f → x ≤ z → cnt 9 (tb z) = hN i → ∀ v : Nat, S 4 ((i + 1 : Nat) : Int) 0 ((t ||| z : Nat) : Int) = (v : Int) → gd i + v ≤ r) ∧ (r = m5 ∨ ∃ z v, Sb z f ∧ cnt 9 (tb z) = hN i ∧ S 4 ((i + 1 : Nat) : Int) 0 ((t ||| z : Nat) : Int) = ((v : Nat) : Int) ∧ r = gd i + v)
theorem c_most_go {hN fw : Nat → Nat} {S : Sg} {i t f : Nat} (hc : Cw hN fw S) (hi : i < 8) (ht : t < 512) (hf : f < 512) (hV : ∀ z, Sb z f → cnt 9 (tb z) = hN i → ∃ v : Nat, S 4 ((i + 1 : Nat) : Int) 0 ((t ||| z : Nat) : Int) = (v : Int) ∧ v ≤ 2303) (d n x k m5 : Nat) (hx : Sb x f) (h0 : 0 < x) (hd : f - x ≤ d) (hk : k < x) (hn : d + 1 < n) (hm : m5 ≤ 2687) (rec : ∀ (n2 x2 k2 m2 : Nat), x < x2 → (Sb x2 f ∧ x2 ≤ f) → (n2 + 1 = n ∧ k2 = k + 1) → m2 ≤ 2687 → ∃ r : Nat, zf_C_mostBySet_22 n2 (i : Int) (t : Int) (f : Int) ((i + 1 : Nat) : Int) (m2 : Int) (x2 : Int) (k2 : Int) S = some ((r : Int), S) ∧ MsR hN S i t f x2 m2 r) : ∃ r : Nat, zf_C_mostBySet_22 n (i : Int) (t : Int) (f : Int) ((i + 1 : Nat) : Int) (m5 : Int) (x : Int) (k : Int) S = some ((r : Int), S) ∧ MsR hN S i t f x m5 r := by
  have hxf := hx.le
  obtain ⟨n, rfl⟩ : ∃ n', n = n' + 1 := ⟨n - 1, by omega⟩
  have gi : gd i ≤ 384 := by
    have : ∀ i, i < 8 → gd i ≤ 384 := by decide
    exact this i hi
  -- behind this part: the next, or the end
  have nxt : ∀ m2 : Nat, m2 ≤ 2687 → ∃ r : Nat, zf_C_mostBySet_68 (zf_C_mostBySet_22 n) (i : Int) (t : Int) (f : Int) ((i + 1 : Nat) : Int) (m2 : Int) (x : Int) (k : Int) S = some ((r : Int), S) ∧ m2 ≤ r ∧ r ≤ 2687 ∧ (∀ z, Sb z f → x < z → cnt 9 (tb z) = hN i → ∀ v : Nat, S 4 ((i + 1 : Nat) : Int) 0 ((t ||| z : Nat) : Int) = (v : Int) → gd i + v ≤ r) ∧ (r = m2 ∨ ∃ z v, Sb z f ∧ cnt 9 (tb z) = hN i ∧ S 4 ((i + 1 : Nat) : Int) 0 ((t ||| z : Nat) : Int) = ((v : Nat) : Int) ∧ r = gd i + v) := by
    intro m2 hm2
    unfold zf_C_mostBySet_68
    rw [zlt_v, zlt_v, nx_int hf hxf, zw_in (x := (k : Int) + 1) (by omega) (by omega)]
    by_cases e : x = f
    · subst e
      have e0 : (x + 512 - x) &&& x = 0 := by
        rw [show x + 512 - x = 512 by omega]
        exact and512 ⟨x, hf⟩
      rw [e0]
      obtain ⟨n, rfl⟩ : ∃ n', n = n' + 1 := ⟨n - 1, by omega⟩
      rw [zf_C_mostBySet_22, if_neg (by omega), if_pos (show ((0 : Nat) : Int) = 0 from rfl)]
      exact ⟨m2, rfl, Nat.le_refl _, hm2, fun z hz hz2 => by have := hz.le; omega, Or.inl rfl⟩
    · obtain ⟨o1, o2⟩ := nx_ord 9 x f hf hx e
      have o3 : Sb ((x + 512 - f) &&& f) f := sb_and _ _
      obtain ⟨r, r1, r2, r3, r4, r5⟩ := rec n ((x + 512 - f) &&& f) (k + 1) m2 o1 ⟨o3, o3.le⟩ ⟨rfl, rfl⟩ hm2
      refine ⟨r, ?_, r2, r3, fun z hz hz2 hz3 v hv => r4 z hz (o2 z hz hz2) hz3 v hv, r5⟩
      rw [← r1]
      rfl
  rw [zf_C_mostBySet_22, if_neg (by omega), if_neg (by omega), pf_Ji_bitCount, zbc9 (by omega), zbd_s, zck_b (by omega), (hc i hi).1]
  by_cases hq : cnt 9 (tb x) = hN i
  · obtain ⟨v, v1, v2⟩ := hV x hx hq
    unfold zf_C_goodOf
    have ho : t ||| x < 512 := or_512 ht (by omega)
    rw [if_pos (by rw [hq]), zbd_s, gd_int i hi, zor_n (by omega) (by omega), zck_b (by omega), v1, zw_in (x := (gd i : Int) + (v : Int)) (by omega) (by omega), zlt_v]
    have e : max (m5 : Int) ((gd i : Int) + (v : Int)) = ((max m5 (gd i + v) : Nat) : Int) := by omega
    rw [e]
    obtain ⟨r, r1, r2, r3, r4, r5⟩ := nxt (max m5 (gd i + v)) (by omega)
    refine ⟨r, r1, by omega, r3, fun z hz hz2 hz3 w hw => ?_, ?_⟩
    · by_cases ez : z = x
      · subst ez
        rw [v1] at hw
        omega
      · exact r4 z hz (by omega) hz3 w hw
    · rcases r5 with r5 | r5
      · by_cases q : m5 ≤ gd i + v
        · exact Or.inr ⟨x, v, hx, hq, v1, by omega⟩
        · exact Or.inl (by omega)
      · exact Or.inr r5
  · rw [if_neg (by omega)]
    obtain ⟨r, r1, r2, r3, r4, r5⟩ := nxt m5 hm
    refine ⟨r, r1, r2, r3, fun z hz hz2 hz3 w hw => ?_, r5⟩
    by_cases ez : z = x
    · subst ez; exact absurd hz3 hq
    · exact r4 z hz (by omega) hz3 w hw
theorem c_most {hN fw : Nat → Nat} {S : Sg} {i t f : Nat} (hc : Cw hN fw S) (hi : i < 8) (ht : t < 512) (hf : f < 512) (hV : ∀ z, Sb z f → cnt 9 (tb z) = hN i → ∃ v : Nat, S 4 ((i + 1 : Nat) : Int) 0 ((t ||| z : Nat) : Int) = (v : Int) ∧ v ≤ 2303) : ∀ (d n x k : Nat) (m5 : Nat), Sb x f → 0 < x → f - x ≤ d → k < x → d + 1 < n → m5 ≤ 2687 → ∃ r : Nat, zf_C_mostBySet_22 n (i : Int) (t : Int) (f : Int) ((i + 1 : Nat) : Int) (m5 : Int) (x : Int) (k : Int) S = some ((r : Int), S) ∧ MsR hN S i t f x m5 r
  | 0, n, x, k, m5, hx, h0, hd, hk, hn, hm => c_most_go hc hi ht hf hV 0 n x k m5 hx h0 hd hk hn hm (fun n2 x2 k2 m2 h1 h2 h3 h4 => by omega)
  | d + 1, n, x, k, m5, hx, h0, hd, hk, hn, hm => c_most_go hc hi ht hf hV (d + 1) n x k m5 hx h0 hd hk hn hm (fun n2 x2 k2 m2 h1 h2 h3 h4 => c_most hc hi ht hf hV d n2 x2 k2 m2 h2.1 (by omega) (by omega) (by omega) (by omega) h4)
theorem sb_0 (f : Nat) : Sb 0 f := by
  unfold Sb
  exact Nat.zero_and f
theorem c_mostBySet {hN fw : Nat → Nat} {S : Sg} {i t f : Nat} (hc : Cw hN fw S) (hi : i < 8) (ht : t < 512) (hf : f < 512) (hV : ∀ z, Sb z f → cnt 9 (tb z) = hN i → ∃ v : Nat, S 4 ((i + 1 : Nat) : Int) 0 ((t ||| z : Nat) : Int) = (v : Int) ∧ v ≤ 2303) : ∃ r : Nat, zf_C_mostBySet (i : Int) (t : Int) (f : Int) S = some ((r : Int), S) ∧ MsR hN S i t f 1 0 r := by
  unfold zf_C_mostBySet
  rw [zw_in (x := (i : Int) + 1) (by omega) (by omega), zck_b (by omega), zlt_v, nx0_int hf]
  by_cases e : f = 0
  · subst e
    rw [show (0 + 512 - 0) &&& 0 = 0 from rfl, show (4096 : Nat) = 4095 + 1 from rfl, zf_C_mostBySet_22, if_neg (by decide), if_pos (show ((0 : Nat) : Int) = 0 from rfl)]
    exact ⟨0, rfl, Nat.le_refl _, by decide, fun z hz hz2 => by have := hz.le; omega, Or.inl rfl⟩
  · obtain ⟨o1, o2⟩ := nx_ord 9 0 f hf (sb_0 f) (fun q => e q.symm)
    have o3 : Sb ((0 + 512 - f) &&& f) f := sb_and _ _
    obtain ⟨r, r1, r2, r3, r4, r5⟩ := c_most hc hi ht hf hV 512 4096 ((0 + 512 - f) &&& f) 0 0 o3 o1 (by omega) o1 (by omega) (by omega)
    exact ⟨r, r1, r2, r3, fun z hz hz2 => r4 z hz (o2 z hz (by omega)), r5⟩
theorem cnt_sb {z f : Nat} (h : Sb z f) : cnt 9 (tb z) ≤ cnt 9 (tb f) := cnt_mono 9 (fun _ _ hk => h.bit hk)
theorem cnt_tb0 : cnt 9 (tb 0) = 0 := by decide
/-- one cell of the table is right -/
theorem c_cell {hN fw : Nat → Nat} {S : Sg} {i t m : Nat} (hi : i < 8) (hm : m ≤ 9) (ht : t < 2 ^ m) (hfw : fw i < 2 ^ m) (hG : ∀ u, u < 2 ^ m → Gw hN fw S (i + 1) u) {v0 v : Nat} (h0 : S 4 ((i + 1 : Nat) : Int) 0 (t : Int) = (v0 : Int)) (hv : (hN i = 0 ∧ v = v0) ∨ (cnt 9 (tb (nd (fw i) t)) < hN i ∧ v = v0) ∨ (0 < hN i ∧ ∃ r, MsR hN S i t (nd (fw i) t) 1 0 r ∧ v = max v0 r)) : Mx hN (Fw fw) i (tb t) v := by
  have p9 : 2 ^ m ≤ 512 := Nat.pow_le_pow_right (show 2 > 0 by decide) hm
  have hf : fw i < 512 := by omega
  obtain ⟨w0, w1, w2⟩ := hG t ht
  have e0 : w0 = v0 := by rw [h0] at w1; omega
  subst e0
  have val : ∀ s, Crw 9 hN (Fw fw) i (tb t) s → Sb (mks 9 s) (nd (fw i) t) ∧ cnt 9 (tb (mks 9 s)) = hN i ∧ ∃ w : Nat, S 4 ((i + 1 : Nat) : Int) 0 ((t ||| mks 9 s : Nat) : Int) = (w : Int) ∧ Mx hN (Fw fw) (i + 1) (fun k => tb t k || s k) w := by
    intro s hs
    have es := crw_mask hs
    have c1 := (crw_iff (t := t) (z := mks 9 s) hf).mp (by rw [← es]; exact hs)
    have hlt : mks 9 s < 2 ^ m := Nat.lt_of_le_of_lt (Nat.le_trans c1.1.le (nd_le _ _)) hfw
    obtain ⟨w, a1, a2⟩ := hG (t ||| mks 9 s) (Nat.or_lt_two_pow ht hlt)
    refine ⟨c1.1, c1.2, w, a1, ?_⟩
    rw [tb_or, ← es] at a2
    exact a2
  refine mx_step hi (fun s => (S 4 ((i + 1 : Nat) : Int) 0 ((t ||| mks 9 s : Nat) : Int)).toNat) w2 (fun s hs => ?_) ?_ (fun hh s hs => ?_) ?_
  · obtain ⟨-, -, w, a1, a2⟩ := val s hs
    rw [a1]
    exact a2
  · rcases hv with ⟨-, e⟩ | ⟨-, e⟩ | ⟨-, r, -, e⟩ <;> omega
  · obtain ⟨b1, b2, w, a1, a2⟩ := val s hs
    rw [a1]
    rcases hv with ⟨e, -⟩ | ⟨e, -⟩ | ⟨-, r, c, e⟩
    · omega
    · have := cnt_sb b1
      omega
    · have hz : 1 ≤ mks 9 s := by
        refine Nat.pos_of_ne_zero (fun q => ?_)
        rw [q, cnt_tb0] at b2
        omega
      have := c.2.2.1 (mks 9 s) b1 hz b2 w a1
      show gd i + (w : Int).toNat ≤ v
      rw [Int.toNat_natCast]
      omega
  · rcases hv with ⟨-, e⟩ | ⟨-, e⟩ | ⟨hh, r, c, e⟩
    · exact Or.inl e
    · exact Or.inl e
    · rcases c.2.2.2 with e2 | ⟨z, w, z1, z2, z3, z4⟩
      · exact Or.inl (by omega)
      · by_cases q : v = w0
        · exact Or.inl q
        · refine Or.inr ⟨hh, tb z, (crw_iff hf).mpr ⟨z1, z2⟩, ?_⟩
          have zl : z < 512 := Nat.lt_of_le_of_lt (Nat.le_trans z1.le (nd_le _ _)) hf
          have ez : mks 9 (tb z) = z := tb_inj (n := 9) (mks_lt _ 9) zl (fun k hk => mks_bit _ 9 k hk)
          show v = gd i + (S 4 ((i + 1 : Nat) : Int) 0 ((t ||| mks 9 (tb z) : Nat) : Int)).toNat
          rw [ez, z3]
          rw [Int.toNat_natCast]
          omega
/-- rows of the table that lie elsewhere -/
def Wf (i : Int) (S S2 : Sg) : Prop := ∀ (g : Nat) (r k : Int), ¬ (g = 4 ∧ r = i ∧ k = 0) → S2 g r k = S g r k
theorem Cw.keep {hN fw : Nat → Nat} {S S2 : Sg} {i : Int} (h : Cw hN fw S) (hf : Wf i S S2) : Cw hN fw S2 := fun j hj => by
  rw [hf 3 0 11 (by omega), hf 3 0 14 (by omega)]
  exact h j hj
theorem c_row {hN fw : Nat → Nat} {i m : Nat} (q : Int → Int → Sg → Option (Int × Sg)) (hi : i < 8) (hm : m ≤ 9) (hfw : fw i < 2 ^ m) : ∀ (c t n : Nat) (S : Sg), t + c = 2 ^ m → c < n → Cw hN fw S → (∀ u, u < 2 ^ m → Gw hN fw S (i + 1) u) → (∀ u, u < t → Gw hN fw S i u) → ∃ S2, zf_C_weighAll_49 q n ((2 ^ m : Nat) : Int) (i : Int) ((i + 1 : Nat) : Int) (t : Int) S = q ((2 ^ m : Nat) : Int) ((i : Int) - 1) S2 ∧ Wf i S S2 ∧ ∀ u, u < 2 ^ m → Gw hN fw S2 i u
  | _, _, 0, _, _, hn, _, _, _ => absurd hn (Nat.not_lt_zero _)
  | 0, t, n + 1, S, ht, hn, hc, hG, hD => by
    rw [zf_C_weighAll_49, if_pos (by omega)]
    unfold zf_C_weighAll_138
    rw [zlt_v, zw_in (x := (i : Int) + -1) (by omega) (by omega)]
    exact ⟨S, rfl, fun _ _ _ _ => rfl, fun u hu => hD u (by omega)⟩
  | c + 1, t, n + 1, S, ht, hn, hc, hG, hD => by
    have p9 : 2 ^ m ≤ 512 := Nat.pow_le_pow_right (show 2 > 0 by decide) hm
    have ht2 : t < 2 ^ m := by omega
    have ci := hc i hi
    have hf : fw i < 512 := by omega
    have hnd : nd (fw i) t < 512 := Nat.lt_of_le_of_lt (nd_le _ _) hf
    obtain ⟨v0, v1, v2⟩ := hG t ht2
    have hv0 := mx_le v2
    -- behind the cell
    have go : ∀ v : Nat, Mx hN (Fw fw) i (tb t) v → ∃ S2, zf_C_weighAll_121 q (zf_C_weighAll_49 q n) ((2 ^ m : Nat) : Int) (i : Int) ((i + 1 : Nat) : Int) (t : Int) (v : Int) S = q ((2 ^ m : Nat) : Int) ((i : Int) - 1) S2 ∧ Wf i S S2 ∧ ∀ u, u < 2 ^ m → Gw hN fw S2 i u := by
      intro v hv
      unfold zf_C_weighAll_121
      rw [zck_b (by omega), zck_b (by omega), zlt_v, zlt_v, zw_in (x := (t : Int) + 1) (by omega) (by omega)]
      have w1 : Wf i S (zu S 4 i 0 t v) := fun g r k z => zu_ne z
      obtain ⟨S2, k1, k2, k3⟩ := c_row q hi hm hfw c (t + 1) n (zu S 4 (i : Int) 0 (t : Int) (v : Int)) (by omega) (by omega) (hc.keep w1) (fun u hu => by
        obtain ⟨a, a1, a2⟩ := hG u hu
        exact ⟨a, by rw [w1 4 ((i + 1 : Nat) : Int) 0 (by omega)]; exact a1, a2⟩) (fun u hu => by
        by_cases e : u = t
        · subst e
          exact ⟨v, zu_at .., hv⟩
        · obtain ⟨a, a1, a2⟩ := hD u (by omega)
          exact ⟨a, by rw [zu_pl (by omega)]; exact a1, a2⟩)
      refine ⟨S2, ?_, fun g r k z => (k2 g r k z).trans (w1 g r k z), k3⟩
      rw [← k1]
      rfl
    rw [zf_C_weighAll_49, if_neg (by omega), if_neg (by omega), zck_b (by omega), ci.2.1, zandn_n (by omega), zlt_v, zck_b (by omega), v1, zlt_v, ci.1]
    by_cases h0 : hN i = 0
    · rw [if_pos (by omega)]
      exact go v0 (c_cell hi hm ht2 hfw hG v1 (Or.inl ⟨h0, rfl⟩))
    · rw [if_neg (by omega), pf_Ji_bitCount, zbc9 hnd, zbd_s, ci.1]
      by_cases hb : cnt 9 (tb (nd (fw i) t)) < hN i
      · rw [if_pos (by omega)]
        exact go v0 (c_cell hi hm ht2 hfw hG v1 (Or.inr (Or.inl ⟨hb, rfl⟩)))
      · rw [if_neg (by omega)]
        obtain ⟨r, r1, r2⟩ := c_mostBySet hc hi (show t < 512 by omega) hnd (fun z hz _ => by
          have zl : z < 2 ^ m := Nat.lt_of_le_of_lt (Nat.le_trans hz.le (nd_le _ _)) hfw
          obtain ⟨a, a1, a2⟩ := hG (t ||| z) (Nat.or_lt_two_pow ht2 zl)
          exact ⟨a, a1, mx_le a2⟩)
        rw [r1, zbd_s, zlt_v, show max (v0 : Int) (r : Int) = ((max v0 r : Nat) : Int) by omega]
        exact go (max v0 r) (c_cell hi hm ht2 hfw hG v1 (Or.inr (Or.inr ⟨by omega, r, r2, rfl⟩)))
/-- rows of the table -/
def Wg (S S2 : Sg) : Prop := ∀ (g : Nat) (r k : Int), ¬ g = 4 → S2 g r k = S g r k
theorem Cw.keep2 {hN fw : Nat → Nat} {S S2 : Sg} (h : Cw hN fw S) (hf : Wg S S2) : Cw hN fw S2 := fun j hj => by
  rw [hf 3 0 11 (by omega), hf 3 0 14 (by omega)]
  exact h j hj
theorem c_rows {hN fw : Nat → Nat} {m : Nat} (hm : m ≤ 9) (hfw : ∀ i, i < 8 → fw i < 2 ^ m) : ∀ (i n : Nat) (S : Sg), i ≤ 8 → i < n → Cw hN fw S → (∀ j u, i ≤ j → j ≤ 8 → u < 2 ^ m → Gw hN fw S j u) → ∃ S2, zf_C_weighAll_33 n ((2 ^ m : Nat) : Int) ((i : Int) - 1) S = some (0, S2) ∧ Wg S S2 ∧ ∀ j u, j ≤ 8 → u < 2 ^ m → Gw hN fw S2 j u
  | _, 0, _, _, hn, _, _ => absurd hn (Nat.not_lt_zero _)
  | 0, n + 1, S, hi, hn, hc, hG => by
    rw [zf_C_weighAll_33, if_pos (by omega)]
    exact ⟨S, rfl, fun _ _ _ _ => rfl, fun j u a b => hG j u (by omega) a b⟩
  | i + 1, n + 1, S, hi, hn, hc, hG => by
    have p9 : 2 ^ m ≤ 512 := Nat.pow_le_pow_right (show 2 > 0 by decide) hm
    rw [zf_C_weighAll_33, if_neg (by omega), show (((i + 1 : Nat) : Int) - 1) = (i : Int) by omega, zw_in (x := (i : Int) + 1) (by omega) (by omega), zck_b (by omega)]
    obtain ⟨S2, k1, k2, k3⟩ := c_row (hN := hN) (fw := fw) (i := i) (zf_C_weighAll_33 n) (by omega) hm (hfw i (by omega)) (2 ^ m) 0 4096 S (by omega) (by omega) hc (fun u hu => hG (i + 1) u (Nat.le_refl _) hi hu) (fun u hu => absurd hu (Nat.not_lt_zero _))
    rw [show (((i : Nat) : Int) + 1) = ((i + 1 : Nat) : Int) by omega]
    rw [show ((0 : Nat) : Int) = 0 from rfl] at k1
    rw [k1]
    obtain ⟨S3, m1, m2, m3⟩ := c_rows hm hfw i n S2 (by omega) (by omega) (hc.keep k2) (fun j u a b c => by
      by_cases e : j = i
      · subst e; exact k3 u c
      · obtain ⟨v, v1, v2⟩ := hG j u (by omega) b c
        exact ⟨v, by rw [k2 4 j 0 (by omega)]; exact v1, v2⟩)
    exact ⟨S3, m1, fun g r k z => (m2 g r k z).trans (k2 g r k (by omega)), m3⟩
theorem c_zero {m : Nat} (hm : m ≤ 9) : ∀ (c t n : Nat) (S : Sg), t + c = 2 ^ m → c < n → (∀ u : Nat, u < t → S 4 8 0 (u : Int) = 0) → ∃ S2, zf_C_weighAll_2 n ((2 ^ m : Nat) : Int) (t : Int) S = zf_C_weighAll_30 ((2 ^ m : Nat) : Int) S2 ∧ Wf 8 S S2 ∧ ∀ u : Nat, u < 2 ^ m → S2 4 8 0 (u : Int) = 0
  | _, _, 0, _, _, hn, _ => absurd hn (Nat.not_lt_zero _)
  | 0, t, n + 1, S, ht, hn, hD => by
    rw [zf_C_weighAll_2, if_pos (by omega)]
    exact ⟨S, rfl, fun _ _ _ _ => rfl, fun u hu => hD u (by omega)⟩
  | c + 1, t, n + 1, S, ht, hn, hD => by
    have p9 : 2 ^ m ≤ 512 := Nat.pow_le_pow_right (show 2 > 0 by decide) hm
    rw [zf_C_weighAll_2, if_neg (by omega), if_neg (by omega), zck_b (by omega), zlt_v, zlt_v, zw_in (x := (t : Int) + 1) (by omega) (by omega)]
    have w1 : Wf 8 S (zu S 4 8 0 t 0) := fun g r k z => zu_ne z
    obtain ⟨S2, k1, k2, k3⟩ := c_zero hm c (t + 1) n (zu S 4 8 0 (t : Int) 0) (by omega) (by omega) (fun u hu => by
      by_cases e : u = t
      · subst e; exact zu_at ..
      · rw [zu_pl (by omega)]; exact hD u (by omega))
    refine ⟨S2, ?_, fun g r k z => (k2 g r k z).trans (w1 g r k z), k3⟩
    rw [← k1]
    rfl
/-- the class's table: what is best from each post on, whoever is taken -/
theorem pf_weighAll {hN fw : Nat → Nat} {m : Nat} {S : Sg} (hm : m ≤ 9) (hfw : ∀ i, i < 8 → fw i < 2 ^ m) (hc : Cw hN fw S) : ∃ S2, zf_C_weighAll ((2 ^ m : Nat) : Int) S = some (0, S2) ∧ Wg S S2 ∧ ∀ j u, j ≤ 8 → u < 2 ^ m → Gw hN fw S2 j u := by
  have p9 : 2 ^ m ≤ 512 := Nat.pow_le_pow_right (show 2 > 0 by decide) hm
  unfold zf_C_weighAll
  obtain ⟨S1, k1, k2, k3⟩ := c_zero hm (2 ^ m) 0 4096 S (by omega) (by omega) (fun u hu => absurd hu (Nat.not_lt_zero _))
  rw [show ((0 : Nat) : Int) = 0 from rfl] at k1
  rw [k1]
  unfold zf_C_weighAll_30
  obtain ⟨S2, m1, m2, m3⟩ := c_rows hm hfw 8 4096 S1 (by decide) (by decide) (hc.keep k2) (fun j u a b c => by
    have e : j = 8 := by omega
    subst e
    exact ⟨0, k3 u c, mx_8 hN (Fw fw) (tb u)⟩)
  exact ⟨S2, m1, fun g r k z => (m2 g r k z).trans (k2 g r k (by omega)), m3⟩
