/-! ===== the class's reader, its cells ===== -/
def Stk (f : Int → Int) : List Int → Prop
  | [] => True
  | x :: t => f t.length = x ∧ Stk f t
theorem Stk.ext {f g : Int → Int} : ∀ {l : List Int}, Stk f l → (∀ j : Int, 0 ≤ j → j < l.length → g j = f j) → Stk g l
  | [], _, _ => trivial
  | x :: t, h, q => by
    refine ⟨?_, Stk.ext h.2 (fun j a b => q j a (by simp; omega))⟩
    rw [q t.length (by omega) (by simp; omega)]
    exact h.1
theorem Stk.push {S : Sg} {g : Nat} {r k x : Int} {t : List Int} (h : Stk (S g r k) t) : Stk (zu S g r k t.length x g r k) (x :: t) := by
  refine ⟨zu_at .., h.ext (fun j a b => ?_)⟩
  exact zu_pl (by omega)
abbrev Rln (s : Rs) : Nat := s.2.1.length + s.2.2.1.length
def Rm (s : Rs) (S : Sg) : Prop :=
  S 3 0 4 5 = s.1 ∧ S 3 0 4 4 = s.2.1.length ∧ S 3 0 4 2 = s.2.2.1.length ∧ S 3 0 4 6 = s.2.2.2.1 ∧ S 3 0 4 7 = s.2.2.2.2 ∧ Stk (S 3 0 6) s.2.1 ∧ Stk (S 3 0 5) s.2.2.1 ∧ Rln s ≤ 120 ∧ (2 ≤ s.1 ∧ s.1 ≤ 7) ∧ (0 ≤ s.2.2.2.1 ∧ s.2.2.2.1 ≤ 8)
def Rfr (S S2 : Sg) : Prop := (∀ (g : Nat) (r k : Int), ¬ (g = 3 ∧ r = 0 ∧ 4 ≤ k ∧ k ≤ 6) → S2 g r k = S g r k) ∧ S2 3 0 4 0 = S 3 0 4 0
theorem Rfr.refl (S : Sg) : Rfr S S := ⟨fun _ _ _ _ => rfl, rfl⟩
theorem Rfr.trans {S S2 S3 : Sg} (h : Rfr S S2) (h2 : Rfr S2 S3) : Rfr S S3 := ⟨fun g r k q => (h2.1 g r k q).trans (h.1 g r k q), h2.2.trans h.2⟩
theorem Rfr.put {S : Sg} {k j v : Int} (h : 4 ≤ k ∧ k ≤ 6) (h0 : k ≠ 4 ∨ j ≠ 0) : Rfr S (zu S 3 0 k j v) := by
  refine ⟨fun g r k' q => zu_ne (by omega), ?_⟩
  exact if_neg (by omega)
theorem r_hold {s : Rs} {S : Sg} (x : Int) (h : Rm s S) (hl : Rln s < 120) : ∃ S2, zf_R_hold x S = some (0, S2) ∧ Rm (s.1, x :: s.2.1, s.2.2.1, s.2.2.2.1, s.2.2.2.2) S2 ∧ Rfr S S2 := by
  obtain ⟨h1, h2, h3, h4, h5, h6, h7, h8, h9, h10⟩ := h
  unfold Rln at hl
  unfold zf_R_hold
  rw [if_neg (by rw [h2]; omega), zck_b (by rw [h2]; omega), zlt_v, zlt_v, show zu S 3 0 6 (S 3 0 4 4) x 3 0 4 4 = S 3 0 4 4 by simp [zu], h2, zw_in (by omega) (by omega)]
  refine ⟨_, rfl, ⟨?_, ?_, ?_, ?_, ?_, ?_, ?_, ?_, h9, h10⟩, (Rfr.put (by decide) (Or.inl (by decide))).trans (Rfr.put (by decide) (by decide))⟩
  · simp [zu, h1]
  · rw [zu_at]; simp
  · simp [zu, h3]
  · simp [zu, h4]
  · simp [zu, h5]
  · rw [zu_ne (by decide)]
    exact h6.push
  · rw [zu_ne (by decide), zu_ne (by decide)]
    exact h7
  · unfold Rln; simp; omega
theorem r_write {s : Rs} {S : Sg} (x : Int) (h : Rm s S) (hl : Rln s < 120) : ∃ S2, zf_R_write x S = some (0, S2) ∧ Rm (s.1, s.2.1, x :: s.2.2.1, s.2.2.2.1, s.2.2.2.2) S2 ∧ Rfr S S2 := by
  obtain ⟨h1, h2, h3, h4, h5, h6, h7, h8, h9, h10⟩ := h
  unfold Rln at hl
  unfold zf_R_write
  rw [if_neg (by rw [h3]; omega), zck_b (by rw [h3]; omega), zlt_v, zlt_v, show zu S 3 0 5 (S 3 0 4 2) x 3 0 4 2 = S 3 0 4 2 by simp [zu], h3, zw_in (by omega) (by omega)]
  refine ⟨_, rfl, ⟨?_, ?_, ?_, ?_, ?_, ?_, ?_, ?_, h9, h10⟩, (Rfr.put (by decide) (Or.inl (by decide))).trans (Rfr.put (by decide) (by decide))⟩
  · simp [zu, h1]
  · simp [zu, h2]
  · rw [zu_at]; simp
  · simp [zu, h4]
  · simp [zu, h5]
  · rw [zu_ne (by decide), zu_ne (by decide)]
    exact h6
  · rw [zu_ne (by decide)]
    exact h7.push
  · unfold Rln; simp; omega
theorem r_unw {lv : Int} : ∀ (w c : List Int) (n : Nat) (st b d : Int) (S : Sg), w.length < n → Rm (st, w, c, b, d) S → ∃ S2, zf_R_unwind_5 n lv S = some (0, S2) ∧ Rm (st, (unw lv w c).1, (unw lv w c).2, b, d) S2 ∧ Rfr S S2
  | _, _, 0, _, _, _, _, hn, _ => absurd hn (Nat.not_lt_zero _)
  | [], c, n + 1, st, b, d, S, hn, h => by
    rw [zf_R_unwind_5, if_pos (by rw [h.2.1]; simp)]
    exact ⟨S, rfl, h, Rfr.refl S⟩
  | x :: w, c, n + 1, st, b, d, S, hn, h => by
    obtain ⟨h1, h2, h3, h4, h5, h6, h7, h8, h9, h10⟩ := id h
    simp only [List.length_cons] at hn h2 h8
    simp only [Rln, List.length_cons] at h8
    have hx : S 3 0 6 w.length = x := h6.1
    rw [zf_R_unwind_5, if_neg (by rw [h2]; omega), h2, zw_in (by omega) (by omega), show (((w.length + 1 : Nat) : Int) - 1) = w.length by omega, zck_b (by omega), hx, pf_R_strength, zbd_s]
    unfold unw
    by_cases hs : stren x < lv
    · rw [if_pos hs, if_pos hs]
      exact ⟨S, rfl, h, Rfr.refl S⟩
    · rw [if_neg hs, if_neg hs, zlt_v, h2, zw_in (by omega) (by omega), show (((w.length + 1 : Nat) : Int) - 1) = w.length by omega, zu_at, zck_b (by omega), zu_ne (by decide), hx]
      have hm : Rm (st, w, c, b, d) (zu S 3 0 4 4 w.length) := by
        refine ⟨by simp [zu, h1], zu_at .., by simp [zu, h3], by simp [zu, h4], by simp [zu, h5], ?_, ?_, by simp only [Rln]; omega, h9, h10⟩
        · rw [zu_ne (by decide)]; exact h6.2
        · rw [zu_ne (by decide)]; exact h7
      obtain ⟨S2, k1, k2, k3⟩ := r_write x hm (by simp only [Rln]; omega)
      rw [k1, zbd_s]
      obtain ⟨S3, m1, m2, m3⟩ := r_unw w (x :: c) n st b d S2 (by omega) k2
      exact ⟨S3, m1, m2, ((Rfr.put (by decide) (by decide)).trans k3).trans m3⟩
theorem r_unwind {st b d : Int} {w c : List Int} {S : Sg} (o : Int) (h : Rm (st, w, c, b, d) S) : ∃ S2, zf_R_unwind o S = some (0, S2) ∧ Rm (st, (unw (stren o) w c).1, (unw (stren o) w c).2, b, d) S2 ∧ Rfr S S2 := by
  unfold zf_R_unwind
  rw [pf_R_strength, zbd_s]
  exact r_unw w c 4096 st b d S (by have := h.2.2.2.2.2.2.2.1; simp only [Rln] at this; omega) h
theorem Rm.state {st st2 b d : Int} {w c : List Int} {S : Sg} (h : Rm (st, w, c, b, d) S) (hs : 2 ≤ st2 ∧ st2 ≤ 7) : Rm (st2, w, c, b, d) (zu S 3 0 4 5 st2) := by
  obtain ⟨h1, h2, h3, h4, h5, h6, h7, h8, h9, h10⟩ := h
  refine ⟨zu_at .., by simp [zu, h2], by simp [zu, h3], by simp [zu, h4], by simp [zu, h5], ?_, ?_, h8, hs, h10⟩
  · rw [zu_ne (by decide)]; exact h6
  · rw [zu_ne (by decide)]; exact h7
theorem Rm.digits {st b d d2 : Int} {w c : List Int} {S : Sg} (h : Rm (st, w, c, b, d) S) : Rm (st, w, c, b, d2) (zu S 3 0 4 7 d2) := by
  obtain ⟨h1, h2, h3, h4, h5, h6, h7, h8, h9, h10⟩ := h
  refine ⟨by simp [zu, h1], by simp [zu, h2], by simp [zu, h3], by simp [zu, h4], zu_at .., ?_, ?_, h8, h9, h10⟩
  · rw [zu_ne (by decide)]; exact h6
  · rw [zu_ne (by decide)]; exact h7
theorem Rm.bracket {st b b2 d : Int} {w c : List Int} {S : Sg} (h : Rm (st, w, c, b, d) S) (hb : 0 ≤ b2 ∧ b2 ≤ 8) : Rm (st, w, c, b2, d) (zu S 3 0 4 6 b2) := by
  obtain ⟨h1, h2, h3, h4, h5, h6, h7, h8, h9, h10⟩ := h
  refine ⟨by simp [zu, h1], by simp [zu, h2], by simp [zu, h3], zu_at .., by simp [zu, h5], ?_, ?_, h8, h9, hb⟩
  · rw [zu_ne (by decide)]; exact h6
  · rw [zu_ne (by decide)]; exact h7
/-- a letter is taken, or not, as the lists say -/
def Tr (s : Rs) (S : Sg) (o : Option Rs) (z : Option (Int × Sg)) : Prop := (o = none → z = some (0, S)) ∧ ∀ s2, o = some s2 → ∃ S2, z = some (1, S2) ∧ Rm s2 S2 ∧ Rfr S S2 ∧ Rln s2 ≤ Rln s + 1
theorem r_atom {st t b d : Int} {w c : List Int} {S : Sg} (x : Int) (h : Rm (st, w, c, b, d) S) (hl : w.length + c.length < 120) (ht : 2 ≤ t ∧ t ≤ 7) : Tr (st, w, c, b, d) S (tkA x t w c b) (zf_R_takesAtom x t S) := by
  have key : ∀ (v d2 xd : Int), (xd = 0 ∧ d2 = 0 ∨ xd ≠ 0 ∧ d2 = 1) → ∃ S2, zf_R_takesAtom_46 t xd v S = some (1, S2) ∧ Rm (t, w, v :: c, b, d2) S2 ∧ Rfr S S2 := by
    intro v d2 xd hd
    unfold zf_R_takesAtom_46 zf_R_takesAtom_62
    obtain ⟨S2, k1, k2, k3⟩ := r_write v h hl
    rw [k1, zbd_s]
    simp only [zlt_v]
    have k4 : Rm (t, w, v :: c, b, d2) (zu (zu S2 3 0 4 7 d2) 3 0 4 5 t) := Rm.state (Rm.digits k2) ht
    have k5 : Rfr S (zu (zu S2 3 0 4 7 d2) 3 0 4 5 t) := (k3.trans (Rfr.put (by decide) (by decide))).trans (Rfr.put (by decide) (by decide))
    rcases hd with ⟨q, q2⟩ | ⟨q, q2⟩
    · rw [if_pos q]; subst q2; exact ⟨_, rfl, k4, k5⟩
    · rw [if_neg q]; subst q2; exact ⟨_, rfl, k4, k5⟩
  unfold zf_R_takesAtom zf_R_takesAtom_16
  by_cases hx : dgt x
  · obtain ⟨hx1, hx2⟩ := id hx
    rw [if_neg (by omega), if_neg (by omega)]
    unfold zf_R_takesAtom_17 zf_R_takesAtom_33 tkA
    rw [if_pos hx, if_neg n10, if_neg n10, zw_in (by omega) (by omega)]
    refine ⟨fun e => (by cases e), fun s2 e => ?_⟩
    cases e
    obtain ⟨S2, k1, k2, k3⟩ := key (x - 48) 1 1 (by omega)
    exact ⟨S2, k1, k2, k3, by simp only [Rln, List.length_cons]; omega⟩
  · have e0 : (if x < 48 then zf_R_takesAtom_17 x t 0 S else if 57 < x then zf_R_takesAtom_17 x t 0 S else zf_R_takesAtom_17 x t 1 S) = zf_R_takesAtom_17 x t 0 S := by
      unfold dgt at hx
      by_cases a : x < 48
      · rw [if_pos a]
      · rw [if_neg a, if_pos (by omega)]
    rw [e0]
    unfold zf_R_takesAtom_17 zf_R_takesAtom_33 tkA
    rw [if_neg hx, if_pos z00, pf_R_fieldStep, zbd_s, if_pos z00]
    by_cases hf : fldS x < 0
    · rw [if_pos hf, if_pos hf]
      refine ⟨fun e => (by cases e), fun s2 e => ?_⟩
      cases e
      obtain ⟨S2, k1, k2, k3⟩ := key (fldS x) 0 0 (by omega)
      exact ⟨S2, k1, k2, k3, by simp only [Rln, List.length_cons]; omega⟩
    · rw [if_neg hf, if_neg hf]
      exact ⟨fun _ => rfl, fun s2 e => (by cases e)⟩
theorem r_digit {st b d : Int} {w c : List Int} {S : Sg} (x : Int) (h : Rm (st, w, c, b, d) S) : Tr (st, w, c, b, d) S (tkD x st w c b d) (zf_R_takesDigit x S) := by
  obtain ⟨h1, h2, h3, h4, h5, h6, h7, h8, h9, h10⟩ := id h
  dsimp only at h1 h2 h3 h4 h5 h6 h7 h8
  simp only [Rln] at h8
  unfold zf_R_takesDigit tkD
  rw [h5]
  by_cases hx : dgt x
  · obtain ⟨hx1, hx2⟩ := id hx
    rw [if_neg (show ¬ x < 48 by omega), if_neg (show ¬ 57 < x by omega)]
    by_cases hd : d < 1
    · rw [if_neg (show ¬ (dgt x ∧ 1 ≤ d ∧ d < 4) by omega), if_pos hd]
      exact ⟨fun _ => rfl, fun s2 e => by cases e⟩
    by_cases hd4 : 4 ≤ d
    · rw [if_neg (show ¬ (dgt x ∧ 1 ≤ d ∧ d < 4) by omega), if_neg hd, if_pos hd4]
      exact ⟨fun _ => rfl, fun s2 e => by cases e⟩
    rw [if_pos (show dgt x ∧ 1 ≤ d ∧ d < 4 from ⟨hx, by omega, by omega⟩), if_neg hd, if_neg hd4, h3]
    cases c with
    | nil =>
      rw [if_neg (by simp)]
      exact ⟨fun _ => rfl, fun s2 e => (by cases e)⟩
    | cons v t =>
      simp only [List.length_cons] at h8
      have hv : S 3 0 5 t.length = v := h7.1
      rw [if_pos (show 1 ≤ (((v :: t).length : Nat) : Int) by simp; omega), List.length_cons, zw_in (x := ((t.length + 1 : Nat) : Int) - 1) (by omega) (by omega), show (((t.length + 1 : Nat) : Int) - 1) = t.length by omega, zck_b (by omega), hv, zlt_v]
      dsimp only
      by_cases h0 : v = 0
      · rw [if_pos h0, if_pos h0]
        exact ⟨fun _ => rfl, fun s2 e => (by cases e)⟩
      · rw [if_neg h0, if_neg h0, zlt_v, zlt_v]
        refine ⟨fun e => (by cases e), fun s2 e => ?_⟩
        cases e
        refine ⟨_, rfl, ?_, (Rfr.put (by decide) (Or.inl (by decide))).trans (Rfr.put (by decide) (by decide)), by simp only [Rln, List.length_cons]; omega⟩
        rw [show zu S 3 0 5 (t.length : Int) (zw (zw (zw (10 * v) + x) - 48)) 3 0 4 7 = d by simp [zu, h5]]
        refine Rm.digits (d := d) ⟨by simp [zu, h1], by simp [zu, h2], by simp [zu, h3], by simp [zu, h4], by simp [zu, h5], ?_, ?_, by simp only [Rln, List.length_cons]; omega, h9, h10⟩
        · rw [zu_ne (by decide)]; exact h6
        · exact Stk.push h7.2
  · have e0 : ∀ y : Option (Int × Sg), (if x < 48 then some ((0 : Int), S) else if 57 < x then some (0, S) else y) = some (0, S) := by
      intro y
      unfold dgt at hx
      by_cases a : x < 48
      · rw [if_pos a]
      · rw [if_neg a, if_pos (by omega)]
    rw [e0, if_neg (fun q => hx q.1)]
    exact ⟨fun _ => rfl, fun s2 e => (by cases e)⟩
theorem r_op {st st2 b d : Int} {w c : List Int} {S : Sg} (u o : Int) (h : Rm (st, w, c, b, d) S) (hl : w.length + c.length < 120) (hs : 2 ≤ st2 ∧ st2 ≤ 7) : ∃ S2, (zbd (zf_R_unwind u S) fun _ S2 => zbd (zf_R_hold o S2) fun _ S4 => zlt (zu S4 3 0 4 5 st2) fun S5 => some ((1 : Int), S5)) = some (1, S2) ∧ Rm (st2, o :: (unw (stren u) w c).1, (unw (stren u) w c).2, b, d) S2 ∧ Rfr S S2 ∧ (o :: (unw (stren u) w c).1).length + (unw (stren u) w c).2.length ≤ w.length + c.length + 1 := by
  obtain ⟨S2, k1, k2, k3⟩ := r_unwind u h
  have hl2 := unw_len (lv := stren u) w c
  rw [k1, zbd_s]
  obtain ⟨S3, m1, m2, m3⟩ := r_hold o k2 (by simp only [Rln]; omega)
  rw [m1, zbd_s, zlt_v]
  exact ⟨_, rfl, Rm.state m2 hs, (k3.trans m3).trans (Rfr.put (by decide) (by decide)), by simp only [List.length_cons]; omega⟩
theorem r_sign {st t b d : Int} {w c : List Int} {S : Sg} (x : Int) (h : Rm (st, w, c, b, d) S) (hl : w.length + c.length < 120) (ht : 2 ≤ t ∧ t ≤ 7) : Tr (st, w, c, b, d) S (tkS x t w c b d) (zf_R_takesSign x t S) := by
  unfold zf_R_takesSign zf_R_takesSign_14 zf_R_takesSign_34 tkS
  by_cases h1 : x = 43
  · subst h1
    rw [if_pos (show (43 : Int) = 43 ∨ (43 : Int) = 45 from Or.inl rfl)]
    refine ⟨fun e => (by cases e), fun s2 e => ?_⟩
    cases e
    obtain ⟨S2, k1, k2, k3, k4⟩ := r_op (-8) (-8) h hl ht
    exact ⟨S2, k1, k2, k3, k4⟩
  · by_cases h2 : x = 45
    · subst h2
      rw [if_pos (show (45 : Int) = 43 ∨ (45 : Int) = 45 from Or.inr rfl)]
      refine ⟨fun e => (by cases e), fun s2 e => ?_⟩
      cases e
      obtain ⟨S2, k1, k2, k3, k4⟩ := r_op (-8) (-9) h hl ht
      exact ⟨S2, k1, k2, k3, k4⟩
    · rw [if_neg (show ¬ (x = 43 ∨ x = 45) by omega), if_neg h1, if_neg h2]
      exact ⟨fun _ => rfl, fun s2 e => by cases e⟩
theorem r_test {st b d : Int} {w c : List Int} {S : Sg} (x : Int) (h : Rm (st, w, c, b, d) S) (hl : w.length + c.length < 120) : Tr (st, w, c, b, d) S (tkT x w c b d) (zf_R_takesTest x S) := by
  unfold zf_R_takesTest zf_R_takesTest_20 zf_R_takesTest_51 tkT
  by_cases h1 : x = 60
  · subst h1
    rw [if_pos (show (60 : Int) = 60 ∨ (60 : Int) = 62 ∨ (60 : Int) = 61 by omega)]
    refine ⟨fun e => (by cases e), fun s2 e => ?_⟩
    cases e
    obtain ⟨S2, k1, k2, k3, k4⟩ := r_op (st2 := 5) (-12) (-10) h hl (by decide)
    exact ⟨S2, k1, k2, k3, k4⟩
  by_cases h2 : x = 62
  · subst h2
    rw [if_pos (show (62 : Int) = 60 ∨ (62 : Int) = 62 ∨ (62 : Int) = 61 by omega)]
    refine ⟨fun e => (by cases e), fun s2 e => ?_⟩
    cases e
    obtain ⟨S2, k1, k2, k3, k4⟩ := r_op (st2 := 5) (-12) (-11) h hl (by decide)
    exact ⟨S2, k1, k2, k3, k4⟩
  by_cases h3 : x = 61
  · subst h3
    rw [if_pos (show (61 : Int) = 60 ∨ (61 : Int) = 62 ∨ (61 : Int) = 61 by omega)]
    refine ⟨fun e => (by cases e), fun s2 e => ?_⟩
    cases e
    obtain ⟨S2, k1, k2, k3, k4⟩ := r_op (st2 := 5) (-12) (-12) h hl (by decide)
    exact ⟨S2, k1, k2, k3, k4⟩
  rw [if_neg (show ¬ (x = 60 ∨ x = 62 ∨ x = 61) by omega), if_neg h1, if_neg h2, if_neg h3]
  exact ⟨fun _ => rfl, fun s2 e => by cases e⟩
theorem Rm.pop {st b d : Int} {w c : List Int} {S : Sg} (h : Rm (st, w, c, b, d) S) : Rm (st, w.tail, c, b, d) (zu S 3 0 4 4 (max 0 (zw (S 3 0 4 4 - 1)))) := by
  obtain ⟨h1, h2, h3, h4, h5, h6, h7, h8, h9, h10⟩ := h
  dsimp only at h1 h2 h3 h4 h5 h6 h7 h8
  simp only [Rln] at h8
  refine ⟨by simp [zu, h1], ?_, by simp [zu, h3], by simp [zu, h4], by simp [zu, h5], ?_, ?_, ?_, h9, h10⟩
  · rw [zu_at, h2, zw_in (by omega) (by omega)]
    cases w with
    | nil => simp; omega
    | cons y t => simp only [List.tail_cons, List.length_cons]; omega
  · rw [zu_ne (by decide)]
    cases w with
    | nil => exact trivial
    | cons y t => exact h6.2
  · rw [zu_ne (by decide)]; exact h7
  · simp only [Rln, List.length_tail]; omega
theorem r_joint {st b d : Int} {w c : List Int} {S : Sg} (x : Int) (h : Rm (st, w, c, b, d) S) (hl : w.length + c.length < 120) : Tr (st, w, c, b, d) S (tkJ x w c b d) (zf_R_takesJoint x S) := by
  have hb : S 3 0 4 6 = b := h.2.2.2.1
  have hb8 := h.2.2.2.2.2.2.2.2.2
  dsimp only at hb8
  unfold zf_R_takesJoint zf_R_takesJoint_51 zf_R_takesJoint_65 zf_R_takesJoint_78 tkJ
  have rest : (x ≠ 41 ∨ b ≤ 0) → Tr (st, w, c, b, d) S (if x = 38 then some (2, -13 :: (unw 2 w c).1, (unw 2 w c).2, b, d) else if x = 124 then some (2, -14 :: (unw 1 w c).1, (unw 1 w c).2, b, d) else none) (if x = 38 then (if x = 38 then (zbd (zf_R_unwind (-13) S) fun a1 S2 => zbd (zf_R_hold (-13) S2) fun a3 S4 => zlt (zu S4 3 0 4 5 2) fun S5 => some (1, S5)) else (zbd (zf_R_unwind (-14) S) fun a1 S2 => zbd (zf_R_hold (-14) S2) fun a3 S4 => zlt (zu S4 3 0 4 5 2) fun S5 => some (1, S5))) else (if x = 124 then (if x = 38 then (zbd (zf_R_unwind (-13) S) fun a1 S2 => zbd (zf_R_hold (-13) S2) fun a3 S4 => zlt (zu S4 3 0 4 5 2) fun S5 => some (1, S5)) else (zbd (zf_R_unwind (-14) S) fun a1 S2 => zbd (zf_R_hold (-14) S2) fun a3 S4 => zlt (zu S4 3 0 4 5 2) fun S5 => some (1, S5))) else (some (0, S)))) := by
    intro _
    by_cases h1 : x = 38
    · rw [if_pos h1, if_pos h1]
      refine ⟨fun e => (by cases e), fun s2 e => ?_⟩
      cases e
      obtain ⟨S2, k1, k2, k3, k4⟩ := r_op (st2 := 2) (-13) (-13) h hl (by decide)
      rw [if_pos h1]
      exact ⟨S2, k1, k2, k3, k4⟩
    · rw [if_neg h1, if_neg h1]
      by_cases h2 : x = 124
      · rw [if_pos h2, if_pos h2]
        refine ⟨fun e => (by cases e), fun s2 e => ?_⟩
        cases e
        obtain ⟨S2, k1, k2, k3, k4⟩ := r_op (st2 := 2) (-14) (-14) h hl (by decide)
        rw [if_neg h1]
        exact ⟨S2, k1, k2, k3, k4⟩
      · rw [if_neg h2, if_neg h2]
        exact ⟨fun _ => rfl, fun s2 e => by cases e⟩
  by_cases h41 : x = 41
  · by_cases hb0 : b ≤ 0
    · rw [if_neg (show ¬ (x = 41 ∧ 0 < b) by omega), if_pos h41, hb, if_pos hb0]
      exact rest (Or.inr hb0)
    · rw [if_pos (show x = 41 ∧ 0 < b by omega), if_pos h41, hb, if_neg hb0]
      obtain ⟨S2, k1, k2, k3⟩ := r_unwind (-14) h
      rw [k1, zbd_s]
      refine ⟨fun e => (by cases e), fun s2 e => ?_⟩
      cases e
      have m1 := k2.pop
      have hb2 : zu S2 3 0 4 4 (max 0 (zw (S2 3 0 4 4 - 1))) 3 0 4 6 = b := m1.2.2.2.1
      simp only [zlt_v]
      rw [hb2, zw_in (x := b - 1) (by omega) (by omega)]
      have hl2 := unw_len (lv := 1) w c
      refine ⟨_, rfl, Rm.state (Rm.bracket m1 (b2 := b - 1) (by omega)) (by decide), ((k3.trans (Rfr.put (by decide) (by decide))).trans (Rfr.put (by decide) (by decide))).trans (Rfr.put (by decide) (by decide)), ?_⟩
      simp only [Rln, List.length_tail]
      omega
  · rw [if_neg (show ¬ (x = 41 ∧ 0 < b) by omega), if_neg h41]
    exact rest (Or.inl h41)
theorem Tr.some1 {s : Rs} {S : Sg} {o : Option Rs} {z : Option (Int × Sg)} (h : Tr s S o z) : ∃ (a : Int) (S2 : Sg), z = some (a, S2) ∧ (a = 0 ∧ S2 = S ∧ o = none ∨ a = 1 ∧ ∃ s2, o = some s2 ∧ Rm s2 S2 ∧ Rfr S S2 ∧ Rln s2 ≤ Rln s + 1) := by
  cases ho : o with
  | none => exact ⟨0, S, h.1 ho, Or.inl ⟨rfl, rfl, rfl⟩⟩
  | some s2 =>
    obtain ⟨S2, k1, k2⟩ := h.2 s2 ho
    exact ⟨1, S2, k1, Or.inr ⟨rfl, s2, rfl, k2⟩⟩
theorem Tr.ck {s : Rs} {S : Sg} {o : Option Rs} {z : Option (Int × Sg)} (h : Tr s S o z) : Tr s S o (zbd z fun a S2 => zck (a = 0 ∨ a = 1) <| some (a, S2)) := by
  refine ⟨fun e => ?_, fun s2 e => ?_⟩
  · rw [h.1 e]; rfl
  · obtain ⟨S2, k1, k2⟩ := h.2 s2 e
    rw [k1]
    exact ⟨S2, rfl, k2⟩
/-- first this, else that -/
theorem Tr.or {s : Rs} {S : Sg} {o o2 : Option Rs} {z : Option (Int × Sg)} {k : Sg → Option (Int × Sg)} (h : Tr s S o z) (h2 : Tr s S o2 (k S)) : Tr s S (if o.isSome then o else o2) (zbd z fun a S2 => if a = 0 then k S2 else some (1, S2)) := by
  cases ho : o with
  | none =>
    rw [h.1 ho, zbd_s, if_pos rfl]
    exact h2
  | some s3 =>
    obtain ⟨S2, k1, k2⟩ := h.2 s3 ho
    rw [k1, zbd_s, if_neg n10]
    refine ⟨fun e => (by cases e), fun s2 e => ?_⟩
    cases e
    exact ⟨S2, rfl, k2⟩
theorem Tr.last {s : Rs} {S : Sg} {o : Option Rs} {z : Option (Int × Sg)} (h : Tr s S o z) : Tr s S o (zbd z fun a S2 => if a = 0 then some (0, S2) else some (1, S2)) := by
  refine ⟨fun e => ?_, fun s2 e => ?_⟩
  · rw [h.1 e]; rfl
  · obtain ⟨S2, k1, k2⟩ := h.2 s2 e
    rw [k1]
    exact ⟨S2, rfl, k2⟩
theorem r_takes {st b d : Int} {w c : List Int} {S : Sg} (x : Int) (h : Rm (st, w, c, b, d) S) (hl : w.length + c.length < 120) : Tr (st, w, c, b, d) S (tk x st w c b d) (zf_R_takes x S) := by
  have hst : S 3 0 4 5 = st := h.1
  have hst2 := h.2.2.2.2.2.2.2.2.1
  have hb : S 3 0 4 6 = b := h.2.2.2.1
  have hb8 := h.2.2.2.2.2.2.2.2.2
  dsimp only at hst2 hb8
  unfold zf_R_takes tk
  rw [zlt_v, hst, if_neg (show ¬ st = 0 by omega), if_neg (show ¬ st = 1 by omega)]
  by_cases h2 : st = 2
  · rw [if_pos h2, if_pos h2]
    unfold zf_R_takesNot zf_R_takesBracket zf_R_takes_96
    by_cases h33 : x = 33
    · rw [if_pos h33, if_pos h33]
      obtain ⟨S2, k1, k2, k3⟩ := r_hold (-15) h hl
      rw [k1, zbd_s, zbd_s, if_neg n10]
      refine ⟨fun e => (by cases e), fun s2 e => ?_⟩
      cases e
      subst h2
      exact ⟨S2, rfl, k2, k3, by simp only [Rln, List.length_cons]; omega⟩
    · rw [if_neg h33, if_neg h33, zbd_s, if_pos z00]
      by_cases h40 : x = 40
      · by_cases h8 : b < 8
        · rw [if_pos (show x = 40 ∧ b < 8 from ⟨h40, h8⟩), if_pos h40, hb, if_pos h8, zlt_v, zw_in (x := b + 1) (by omega) (by omega)]
          have m1 : Rm (st, w, c, b + 1, d) (zu S 3 0 4 6 (b + 1)) := h.bracket (by omega)
          obtain ⟨S2, k1, k2, k3⟩ := r_hold (-16) m1 hl
          rw [k1, zbd_s, zbd_s, if_neg n10]
          refine ⟨fun e => (by cases e), fun s2 e => ?_⟩
          cases e
          subst h2
          exact ⟨S2, rfl, k2, (Rfr.put (by decide) (by decide)).trans k3, by simp only [Rln, List.length_cons]; omega⟩
        · rw [if_neg (show ¬ (x = 40 ∧ b < 8) from fun q => h8 q.2), if_pos h40, hb, if_neg h8, zbd_s, if_pos z00]
          exact (r_atom (t := 4) x h hl (by decide)).last
      · rw [if_neg (show ¬ (x = 40 ∧ b < 8) from fun q => h40 q.1), if_neg h40, zbd_s, if_pos z00]
        exact (r_atom (t := 4) x h hl (by decide)).last
  rw [if_neg h2, if_neg h2]
  by_cases h3 : st = 3
  · rw [if_pos h3, if_pos h3]
    exact (r_atom (t := 4) x h hl (by decide)).ck
  rw [if_neg h3, if_neg h3]
  by_cases h4 : st = 4
  · rw [if_pos h4, if_pos h4]
    unfold zf_R_takes_142
    exact Tr.or (r_digit x h) (Tr.or (k := fun S2 => zbd (zf_R_takesTest x S2) fun a S3 => if a = 0 then some (0, S3) else some (1, S3)) (r_sign (t := 3) x h hl (by decide)) (r_test x h hl).last)
  rw [if_neg h4, if_neg h4]
  by_cases h5 : st = 5
  · rw [if_pos h5, if_pos h5]
    exact (r_atom (t := 6) x h hl (by decide)).ck
  rw [if_neg h5, if_neg h5]
  by_cases h6 : st = 6
  · rw [if_pos h6, if_pos h6]
    unfold zf_R_takes_173
    exact Tr.or (r_digit x h) (Tr.or (k := fun S2 => zbd (zf_R_takesJoint x S2) fun a S3 => if a = 0 then some (0, S3) else some (1, S3)) (r_sign (t := 5) x h hl (by decide)) (r_joint x h hl).last)
  rw [if_neg h6, if_neg h6]
  exact (r_joint x h hl).ck
/-- the letters of a row -/
def Ltr (f : Int → Int) (L : List Int) : Prop := ∀ (x : Int) (t : List Int), (x :: t) <:+ L → f (L.length - (t.length + 1)) = x
theorem r_loop {L : List Int} {g : Nat} {d k : Int} (hg : g ≠ 3) (hL : L.length ≤ 120) : ∀ (r : List Int) (n : Nat) (s : Rs) (S : Sg), r.length < n → r <:+ L → Ltr (S g d k) L → Rm s S → Rln s ≤ L.length - r.length →
    (∀ r2, Fls r s r2 → ∃ S2, zf_R_read_32 g d k 120 n L.length (L.length - r.length) S = some ((L.length : Int) - (r2.length : Int), S2) ∧ Rfr S S2) ∧ (∀ s2, rl r s = ([], s2) → (s2.1 = 6 ∨ s2.1 = 7) → s2.2.2.2.1 = 0 → ∃ S2, zf_R_read_32 g d k 120 n L.length (L.length - r.length) S = some (-2, S2) ∧ Rfr S S2 ∧ Rm (s2.1, (unw 1 s2.2.1 s2.2.2.1).1, (unw 1 s2.2.1 s2.2.2.1).2, 0, s2.2.2.2.2) S2)
  | _, 0, _, _, hn, _, _, _, _ => absurd hn (Nat.not_lt_zero _)
  | [], n + 1, s, S, hn, hr, hT, hm, hs => by
    obtain ⟨st, w, c, b, dd⟩ := s
    have h5 : S 3 0 4 5 = st := hm.1
    have h6 : S 3 0 4 6 = b := hm.2.2.2.1
    rw [zf_R_read_32, if_pos (by simp)]
    unfold zf_R_read_61 zf_R_read_88
    rw [h5, h6]
    refine ⟨fun r2 ⟨s2, k1, k2⟩ => ?_, fun s2 k1 k2 k3 => ?_⟩
    · cases r2 with
      | nil =>
        have : s2 = (st, w, c, b, dd) := by
          have := congrArg Prod.snd k1
          exact this.symm
        subst this
        have k2 : 0 < b ∨ (st ≠ 6 ∧ st ≠ 7) := k2
        refine ⟨S, ?_, Rfr.refl S⟩
        by_cases hb : 0 < b
        · rw [if_pos hb]; simp
        · rw [if_neg hb, if_neg (by omega), if_neg (by omega)]; simp
      | cons y u =>
        have : rl (y :: u) s2 = (y :: u, s2) := by
          unfold rl
          have k2 : tk y s2.1 s2.2.1 s2.2.2.1 s2.2.2.2.1 s2.2.2.2.2 = none := k2
          rw [k2]
        rw [this] at k1
        cases k1
    · have : s2 = (st, w, c, b, dd) := by
        have := congrArg Prod.snd k1
        exact this.symm
      subst this
      dsimp only at k2 k3
      subst k3
      rw [if_neg (by decide)]
      obtain ⟨S2, m1, m2, m3⟩ := r_unwind (-14) hm
      rw [m1, zbd_s]
      refine ⟨S2, ?_, m3, m2⟩
      by_cases h : st = 6
      · rw [if_pos h]
      · rw [if_neg h, if_pos (by omega)]
  | x :: t, n + 1, s, S, hn, hr, hT, hm, hs => by
    obtain ⟨st, w, c, b, dd⟩ := s
    have hlen := sfx_len hr
    simp only [List.length_cons] at hn hs
    have hx := hT x t hr
    rw [zf_R_read_32, if_neg (by simp; omega), if_neg (by simp; omega), zck_b (by simp; omega), List.length_cons, show ((L.length : Int) - ((t.length + 1 : Nat) : Int)) = L.length - (t.length + 1) by omega, hx]
    simp only [Rln] at hs
    have key := r_takes x hm (by omega)
    cases ht : tk x st w c b dd with
    | none =>
      rw [key.1 ht, zbd_s, if_pos rfl]
      have e0 : rl (x :: t) (st, w, c, b, dd) = (x :: t, (st, w, c, b, dd)) := by
        unfold rl
        dsimp only
        rw [ht]
      refine ⟨fun r2 ⟨s2, k1, k2⟩ => ?_, fun s2 k1 _ _ => by rw [e0] at k1; cases k1⟩
      rw [e0] at k1
      cases r2 with
      | nil => cases k1
      | cons y u =>
        have : rl (y :: u) s2 = (y :: u, s2) := by
          unfold rl
          have k2 : tk y s2.1 s2.2.1 s2.2.2.1 s2.2.2.2.1 s2.2.2.2.2 = none := k2
          rw [k2]
        rw [this] at k1
        cases k1
        exact ⟨S, by simp, Rfr.refl S⟩
    | some s2 =>
      obtain ⟨S2, m1, m2, m3, m4⟩ := key.2 s2 ht
      rw [m1, zbd_s, if_neg (by decide), zlt_v, zw_in (by omega) (by omega), show (L.length : Int) - (t.length + 1) + 1 = L.length - t.length by omega]
      have hT2 : Ltr (S2 g d k) L := by
        rw [m3.1 g d k (by omega)]
        exact hT
      simp only [Rln] at m4
      have ih := r_loop hg hL t n s2 S2 (by omega) ((sfx_cons x t).trans hr) hT2 m2 (by simp only [Rln]; omega)
      have e0 : rl (x :: t) (st, w, c, b, dd) = rl t s2 := rl_go ht
      refine ⟨fun r2 ⟨s3, k1, k2⟩ => ?_, fun s3 k1 k2 k3 => ?_⟩
      · rw [e0] at k1
        obtain ⟨S3, z1, z2⟩ := ih.1 r2 ⟨s3, k1, k2⟩
        exact ⟨S3, z1, m3.trans z2⟩
      · rw [e0] at k1
        obtain ⟨S3, z1, z2, z3⟩ := ih.2 s3 k1 k2 k3
        exact ⟨S3, z1, m3.trans z2, z3⟩
def Rfq (S S2 : Sg) : Prop := ∀ (g : Nat) (r k : Int), ¬ (g = 3 ∧ r = 0 ∧ 4 ≤ k ∧ k ≤ 6) → S2 g r k = S g r k
/-- what the reader has read -/
theorem r_read {L : List Int} {g : Nat} {d k : Int} {S : Sg} (hg : g ≠ 3) (hL : L.length ≤ 120) (hT : Ltr (S g d k) L) :
    ((pTx L).2 = none → ∃ S2, zf_R_read g d k 120 L.length S = some ((L.length : Int) - ((pTx L).1.length : Int), S2) ∧ Rfq S S2) ∧ (∀ e, (pTx L).2 = some e → ∃ S2, zf_R_read g d k 120 L.length S = some (-2, S2) ∧ Rfq S S2 ∧ S2 3 0 4 2 = e.length ∧ Stk (S2 3 0 5) e.reverse ∧ e.length ≤ 120 ∧ S2 3 0 4 0 = sbj (L.headD 0)) := by
  unfold zf_R_read
  simp only [zlt_v]
  generalize hU : zu (zu (zu (zu (zu (zu S 3 0 4 0 0) 3 0 4 2 0) 3 0 4 4 0) 3 0 4 5 0) 3 0 4 6 0) 3 0 4 7 0 = U
  have f0 : Rfq S U := by
    intro g r k hh
    rw [← hU]
    simp (discharger := omega) only [zu_ne]
  have v2 : U 3 0 4 2 = 0 := by rw [← hU]; simp [zu]
  have v4 : U 3 0 4 4 = 0 := by rw [← hU]; simp [zu]
  have v5 : U 3 0 4 5 = 0 := by rw [← hU]; simp [zu]
  have v6 : U 3 0 4 6 = 0 := by rw [← hU]; simp [zu]
  have v7 : U 3 0 4 7 = 0 := by rw [← hU]; simp [zu]
  clear hU
  have hT2 : Ltr (U g d k) L := by
    rw [f0 g d k (by omega)]
    exact hT
  cases hLL : L with
  | nil =>
    subst hLL
    refine ⟨fun _ => ⟨U, ?_, f0⟩, fun e he => (by cases he)⟩
    rw [show (4096 : Nat) = 4095 + 1 from rfl, zf_R_read_32, if_pos (by simp)]
    unfold zf_R_read_61
    rw [v6, v5, if_neg (by decide), if_neg (by decide), if_neg (by decide)]
    simp [pTx]
  | cons x t =>
    have hx := hT2 x t (by rw [hLL]; exact List.suffix_refl _)
    have hLn : L.length = t.length + 1 := by rw [hLL]; simp
    rw [← hLL]
    rw [show (L.length : Int) - (t.length + 1) = 0 by omega] at hx
    rw [show (4096 : Nat) = 4095 + 1 from rfl, zf_R_read_32, if_neg (by omega), if_neg (by decide), zck_b (by decide), hx]
    unfold zf_R_takes
    rw [zlt_v, v5, if_pos rfl]
    unfold zf_R_takesSubject
    rw [zlt_v]
    -- the subject's letter
    by_cases hs : x = 118 ∨ x = 112 ∨ x = 101 ∨ x = 108
    · have e1 : (if x = 101 then zlt (zu (zu U 3 0 4 5 1) 3 0 4 0 2) fun S3 => some ((1 : Int), S3) else if x = 108 then zlt (zu (zu U 3 0 4 5 1) 3 0 4 0 3) fun S5 => some (1, S5) else if x = 112 then zlt (zu (zu U 3 0 4 5 1) 3 0 4 0 1) fun S7 => some (1, S7) else if x = 118 then zlt (zu (zu U 3 0 4 5 1) 3 0 4 0 0) fun S9 => some (1, S9) else some (0, zu U 3 0 4 5 1)) = some (1, zu (zu U 3 0 4 5 1) 3 0 4 0 (sbj x)) := by
        rcases hs with e | e | e | e <;> subst e <;> rfl
      rw [e1, zbd_s, zck_b (by decide), zbd_s, if_neg (by decide), zlt_v, zw_in (by decide) (by decide)]
      have hp : pTx L = pTc t := by
        rw [hLL, pTx_cons, if_pos hs]
      have fV : Rfq S (zu (zu U 3 0 4 5 1) 3 0 4 0 (sbj x)) := by
        intro g r k hh
        rw [zu_ne (by omega), zu_ne (by omega)]
        exact f0 g r k hh
      have hT3 : Ltr (zu (zu U 3 0 4 5 1) 3 0 4 0 (sbj x) g d k) L := by
        rw [fV g d k (by omega)]
        exact hT
      generalize hV : zu (zu U 3 0 4 5 1) 3 0 4 0 (sbj x) = V at fV hT3
      have w0 : V 3 0 4 0 = sbj x := by rw [← hV]; simp [zu]
      have w2 : V 3 0 4 2 = 0 := by rw [← hV]; simp [zu, v2]
      have w4 : V 3 0 4 4 = 0 := by rw [← hV]; simp [zu, v4]
      have w5 : V 3 0 4 5 = 1 := by rw [← hV]; simp [zu]
      have w6 : V 3 0 4 6 = 0 := by rw [← hV]; simp [zu, v6]
      have w7 : V 3 0 4 7 = 0 := by rw [← hV]; simp [zu, v7]
      clear hV
      cases ht : t with
      | nil =>
        subst ht
        rw [hp]
        refine ⟨fun _ => ⟨V, ?_, fV⟩, fun e he => (by cases he)⟩
        rw [show (4095 : Nat) = 4094 + 1 from rfl, zf_R_read_32, if_pos (by rw [hLn]; decide)]
        unfold zf_R_read_61
        rw [w6, w5, if_neg (by decide), if_neg (by decide), if_neg (by decide)]
        simp [pTc]
      | cons y u =>
        have hy := hT3 y u (by rw [hLL, ht]; exact sfx_cons x (y :: u))
        have hLn2 : L.length = u.length + 2 := by rw [hLn, ht]; simp
        rw [show (L.length : Int) - (u.length + 1) = 1 by omega] at hy
        rw [show (4095 : Nat) = 4094 + 1 from rfl, zf_R_read_32, if_neg (by omega), if_neg (by decide), zck_b (by decide), show (0 : Int) + 1 = 1 from rfl, hy]
        unfold zf_R_takes
        rw [zlt_v, w5, if_neg (by decide), if_pos rfl, zlt_v, hp, ht, pTc_cons]
        have fX : Rfq S (zu V 3 0 4 5 2) := by
          intro g r k hh
          rw [zu_ne (by omega)]
          exact fV g r k hh
        by_cases h58 : y = 58
        · rw [if_pos h58, if_pos h58, zbd_s, if_neg (by decide), zlt_v, zw_in (by decide) (by decide)]
          have hm : Rm (2, [], [], 0, 0) (zu V 3 0 4 5 2) := ⟨zu_at .., by simp [zu, w4], by simp [zu, w2], by simp [zu, w6], by simp [zu, w7], trivial, trivial, by simp [Rln], by decide, by decide⟩
          have hT4 : Ltr (zu V 3 0 4 5 2 g d k) L := by
            rw [fX g d k (by omega)]
            exact hT
          have hus : u <:+ L := by rw [hLL, ht]; exact (sfx_cons y u).trans (sfx_cons x (y :: u))
          have hlo := r_loop hg hL u 4094 (2, [], [], 0, 0) (zu V 3 0 4 5 2) (by omega) hus hT4 hm (by simp only [Rln, List.length_nil]; omega)
          rw [show (L.length : Int) - u.length = 1 + 1 by omega] at hlo
          have htop := a_top u 0 (by omega)
          cases hpe : pEx (pTe (pFa 128 0)) u with
          | mk r o =>
            cases o with
            | none =>
              obtain ⟨S2, z1, z2⟩ := hlo.1 r (htop.2 r none hpe (Or.inr rfl))
              refine ⟨fun _ => ⟨S2, z1, fun g r k hh => (z2.1 g r k hh).trans (fX g r k hh)⟩, fun e he => (by cases he)⟩
            | some e =>
              cases r with
              | nil =>
                obtain ⟨st, X, c2, d2, k1, k2, k3⟩ := htop.1 e hpe
                obtain ⟨S2, z1, z2, z3⟩ := hlo.2 _ k1 k2 rfl
                dsimp only at z3
                rw [k3] at z3
                refine ⟨fun he => (by cases he), fun e2 he => ?_⟩
                cases he
                refine ⟨S2, z1, fun g r k hh => (z2.1 g r k hh).trans (fX g r k hh), ?_, z3.2.2.2.2.2.2.1, ?_, ?_⟩
                · have := z3.2.2.1
                  dsimp only at this
                  rw [List.length_reverse] at this
                  exact this
                · have := z3.2.2.2.2.2.2.2.1
                  simp only [Rln, List.length_reverse, List.length_nil] at this
                  omega
                · rw [z2.2, show zu V 3 0 4 5 2 3 0 4 0 = V 3 0 4 0 by simp [zu], w0, hLL]
                  rfl
              | cons z r =>
                obtain ⟨S2, z1, z2⟩ := hlo.1 (z :: r) (htop.2 _ _ hpe (Or.inl (by simp)))
                refine ⟨fun _ => ⟨S2, z1, fun g r k hh => (z2.1 g r k hh).trans (fX g r k hh)⟩, fun e he => (by cases he)⟩
        · rw [if_neg h58, if_neg h58, zbd_s, if_pos rfl]
          refine ⟨fun _ => ⟨_, ?_, fX⟩, fun e he => (by cases he)⟩
          simp only [List.length_cons]
          rw [show (L.length : Int) - ((u.length + 1 : Nat) : Int) = 1 by omega]
    · have e1 : (if x = 101 then zlt (zu (zu U 3 0 4 5 1) 3 0 4 0 2) fun S3 => some ((1 : Int), S3) else if x = 108 then zlt (zu (zu U 3 0 4 5 1) 3 0 4 0 3) fun S5 => some (1, S5) else if x = 112 then zlt (zu (zu U 3 0 4 5 1) 3 0 4 0 1) fun S7 => some (1, S7) else if x = 118 then zlt (zu (zu U 3 0 4 5 1) 3 0 4 0 0) fun S9 => some (1, S9) else some (0, zu U 3 0 4 5 1)) = some (0, zu U 3 0 4 5 1) := by
        rw [if_neg (by omega), if_neg (by omega), if_neg (by omega), if_neg (by omega)]
      rw [e1, zbd_s, zck_b (by decide), zbd_s, if_pos rfl]
      have hp : pTx L = (x :: t, none) := by
        rw [hLL, pTx_cons, if_neg hs]
      rw [hp]
      refine ⟨fun _ => ⟨zu U 3 0 4 5 1, ?_, ?_⟩, fun e he => (by cases he)⟩
      · simp only [List.length_cons]
        rw [show (L.length : Int) - ((t.length + 1 : Nat) : Int) = 0 by omega]
      · intro g r k hh
        rw [zu_ne (by omega)]
        exact f0 g r k hh
