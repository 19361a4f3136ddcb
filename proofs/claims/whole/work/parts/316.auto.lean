/-! ===== the class reads the same letters, one by one ===== -/
def rl : List Int → Rs → List Int × Rs
  | [], s => ([], s)
  | x :: t, s => match tk x s.1 s.2.1 s.2.2.1 s.2.2.2.1 s.2.2.2.2 with
    | none => (x :: t, s)
    | some s2 => rl t s2
/-- it stops here: a fault -/
def Bad : List Int → Rs → Prop
  | [], s => 0 < s.2.2.2.1 ∨ (s.1 ≠ 6 ∧ s.1 ≠ 7)
  | x :: _, s => tk x s.1 s.2.1 s.2.2.1 s.2.2.2.1 s.2.2.2.2 = none
theorem rl_go {x st : Int} {t w c : List Int} {b d : Int} {s : Rs} (h : tk x st w c b d = some s) : rl (x :: t) (st, w, c, b, d) = rl t s := by
  conv => lhs; unfold rl
  dsimp only
  rw [h]
def Fls (l : List Int) (s : Rs) (r : List Int) : Prop := ∃ s2, rl l s = rl r s2 ∧ Bad r s2
theorem Fls.go {l r r2 : List Int} {s s2 : Rs} (h : rl l s = rl r s2) (h2 : Fls r s2 r2) : Fls l s r2 := by
  obtain ⟨s3, a, b⟩ := h2
  exact ⟨s3, h.trans a, b⟩
/-- the number, or the atom, ends here -/
def Stn (r : List Int) (d : Int) : Prop := ∀ (x : Int) (t : List Int), r = x :: t → d < 1 ∨ ¬ dgt x
def Stz (r : List Int) (d : Int) : Prop := ∀ (x : Int) (t : List Int), r = x :: t → x ≠ 43 ∧ x ≠ 45 ∧ (d < 1 ∨ ¬ dgt x)
theorem tk46_dgt {x st : Int} {w c : List Int} {b d : Int} (hs : st = 4 ∨ st = 6) (hx : dgt x) : tk x st w c b d = tkD x st w c b d := by
  have h1 : tkS x 3 w c b d = none := tkS_no (by unfold dgt at hx; omega) (by unfold dgt at hx; omega)
  have h2 : tkS x 5 w c b d = none := tkS_no (by unfold dgt at hx; omega) (by unfold dgt at hx; omega)
  have h3 : tkT x w c b d = none := by
    unfold tkT
    rw [if_neg (by unfold dgt at hx; omega)]
  have h4 : tkJ x w c b d = none := by
    unfold tkJ
    rw [if_neg (by unfold dgt at hx; omega), if_neg (by unfold dgt at hx; omega), if_neg (by unfold dgt at hx; omega)]
  rcases hs with e | e
  · subst e
    unfold tk
    rw [if_neg (by decide), if_neg (by decide), if_pos rfl, h1, h3]
    cases tkD x 4 w c b d <;> rfl
  · subst e
    unfold tk
    rw [if_neg (by decide), if_neg (by decide), if_neg (by decide), if_neg (by decide), if_pos rfl, h2, h4]
    cases tkD x 6 w c b d <;> rfl
theorem a_pDg {st b : Int} (hs : st = 4 ∨ st = 6) : ∀ (l : List Int) (v cnt : Int) (w c : List Int), 1 ≤ cnt → cnt ≤ 4 →
    (∀ e, (pDg v cnt l).2 = some e → ∃ d2, rl l (st, w, v :: c, b, cnt) = rl (pDg v cnt l).1 (st, w, e.reverse ++ c, b, d2) ∧ Stn (pDg v cnt l).1 d2) ∧ ((pDg v cnt l).2 = none → Fls l (st, w, v :: c, b, cnt) (pDg v cnt l).1)
  | [], v, cnt, w, c, h1, h4 => by
    refine ⟨fun e he => ?_, fun he => by simp [pDg] at he⟩
    simp only [pDg, Option.some.injEq] at he
    subst he
    exact ⟨cnt, rfl, fun x t h => (by cases h)⟩
  | x :: t, v, cnt, w, c, h1, h4 => by
    unfold pDg
    by_cases hx : dgt x
    · rw [if_pos hx]
      have e0 := tk46_dgt (w := w) (c := v :: c) (b := b) (d := cnt) hs hx
      by_cases h : cnt = 4 ∨ v = 0
      · rw [if_pos h]
        refine ⟨fun e he => (by cases he), fun _ => ⟨_, rfl, ?_⟩⟩
        show tk x st w (v :: c) b cnt = none
        rw [e0]
        unfold tkD
        by_cases h5 : cnt = 4
        · rw [if_neg (by omega)]
        · rw [if_pos ⟨hx, h1, by omega⟩]
          dsimp only
          rw [if_pos (by omega)]
      · rw [if_neg h]
        have e1 : tk x st w (v :: c) b cnt = some (st, w, zw (zw (zw (10 * v) + x) - 48) :: c, b, cnt + 1) := by
          rw [e0]
          unfold tkD
          rw [if_pos ⟨hx, h1, by omega⟩]
          dsimp only
          rw [if_neg (by omega), zw_in (x := cnt + 1) (by omega) (by omega)]
        have ih := a_pDg hs (b := b) t (zw (zw (zw (10 * v) + x) - 48)) (cnt + 1) w c (by omega) (by omega)
        refine ⟨fun e he => ?_, fun he => Fls.go (rl_go e1) (ih.2 he)⟩
        obtain ⟨d2, k1, k2⟩ := ih.1 e he
        exact ⟨d2, (rl_go e1).trans k1, k2⟩
    · rw [if_neg hx]
      refine ⟨fun e he => ?_, fun he => (by cases he)⟩
      simp only [Option.some.injEq] at he
      subst he
      refine ⟨cnt, rfl, fun y u h => ?_⟩
      cases h
      exact Or.inr hx
/-- from a state in which an atom is wanted -/
theorem a_pAt {st0 st b d : Int} (hs : st = 4 ∨ st = 6) (h0 : st0 ≠ 6 ∧ st0 ≠ 7) (l w c : List Int) (ht : ∀ (x : Int) (t : List Int), l = x :: t → tk x st0 w c b d = tkA x st w c b) :
    (∀ e, (pAt l).2 = some e → ∃ d2, rl l (st0, w, c, b, d) = rl (pAt l).1 (st, w, e.reverse ++ c, b, d2) ∧ Stn (pAt l).1 d2) ∧ ((pAt l).2 = none → Fls l (st0, w, c, b, d) (pAt l).1) := by
  cases l with
  | nil => exact ⟨fun e he => (by cases he), fun _ => ⟨_, rfl, Or.inr h0⟩⟩
  | cons x t =>
    have e0 := ht x t rfl
    rw [pAt_cons]
    by_cases hx : dgt x
    · rw [if_pos hx]
      have e1 : tk x st0 w c b d = some (st, w, (x - 48) :: c, b, 1) := by
        rw [e0]; unfold tkA; rw [if_pos hx]
      have ih := a_pDg hs (b := b) t (x - 48) 1 w c (by decide) (by decide)
      refine ⟨fun e he => ?_, fun he => Fls.go (rl_go e1) (ih.2 he)⟩
      obtain ⟨d2, k1, k2⟩ := ih.1 e he
      exact ⟨d2, (rl_go e1).trans k1, k2⟩
    · rw [if_neg hx]
      by_cases hf : fldS x < 0
      · rw [if_pos hf]
        have e1 : tk x st0 w c b d = some (st, w, fldS x :: c, b, 0) := by
          rw [e0]; unfold tkA; rw [if_neg hx, if_pos hf]
        refine ⟨fun e he => ?_, fun he => (by cases he)⟩
        simp only [Option.some.injEq] at he
        subst he
        exact ⟨0, rl_go e1, fun y u h => Or.inl (by decide)⟩
      · rw [if_neg hf]
        refine ⟨fun e he => (by cases he), fun _ => ⟨_, rfl, ?_⟩⟩
        show tk x st0 w c b d = none
        rw [e0]; unfold tkA; rw [if_neg hx, if_neg hf]
theorem tk_3 {x : Int} {w c : List Int} {b d : Int} : tk x 3 w c b d = tkA x 4 w c b := by
  unfold tk
  rw [if_neg (by decide), if_pos rfl]
theorem tk_5 {x : Int} {w c : List Int} {b d : Int} : tk x 5 w c b d = tkA x 6 w c b := by
  unfold tk
  rw [if_neg (by decide), if_neg (by decide), if_neg (by decide), if_pos rfl]
theorem tk_sign {x st st0 : Int} {w c : List Int} {b d : Int} (hs : st = 4 ∧ st0 = 3 ∨ st = 6 ∧ st0 = 5) (hx : x = 43 ∨ x = 45) : tk x st w c b d = some (st0, sgo x :: (unw 5 w c).1, (unw 5 w c).2, b, d) := by
  have hd : tkD x st w c b d = none := tkD_no (Or.inr (by unfold dgt; omega))
  have h1 : tkS x st0 w c b d = some (st0, sgo x :: (unw 5 w c).1, (unw 5 w c).2, b, d) := if_pos hx
  rcases hs with ⟨e, e2⟩ | ⟨e, e2⟩ <;> subst e <;> subst e2
  · unfold tk
    rw [if_neg (by decide), if_neg (by decide), if_pos rfl, hd, h1]
    rfl
  · unfold tk
    rw [if_neg (by decide), if_neg (by decide), if_neg (by decide), if_neg (by decide), if_pos rfl, hd, h1]
    rfl
/-- sums: what waits above w has been written behind c0 by and by -/
def Wr (lv : Int) (X c e c0 : List Int) : Prop := (∀ x ∈ X, lv ≤ stren x) ∧ X.reverse ++ c = e.reverse ++ c0
theorem Wr.unw {lv lv2 : Int} {X c e c0 w : List Int} (h : Wr lv X c e c0) (hl : lv2 ≤ lv) (hw : Spt lv2 w) : unw lv2 (X ++ w) c = (w, e.reverse ++ c0) := by
  rw [unw_app X w c (fun x hx => by have := h.1 x hx; omega) hw, h.2]
theorem a_pSl {st st0 b : Int} (hs : st = 4 ∧ st0 = 3 ∨ st = 6 ∧ st0 = 5) : ∀ (n : Nat) (e l w X c c0 : List Int) (d : Int), l.length < n → Spt 5 w → Wr 5 X c e c0 → Stn l d →
    (∀ e2, (pSl n e l).2 = some e2 → ∃ X2 c2 d2, rl l (st, X ++ w, c, b, d) = rl (pSl n e l).1 (st, X2 ++ w, c2, b, d2) ∧ Wr 5 X2 c2 e2 c0 ∧ Stz (pSl n e l).1 d2) ∧ ((pSl n e l).2 = none → Fls l (st, X ++ w, c, b, d) (pSl n e l).1)
  | 0, _, _, _, _, _, _, _, hn, _, _, _ => absurd hn (Nat.not_lt_zero _)
  | n + 1, e, [], w, X, c, c0, d, hn, hw, hX, hd => by
    refine ⟨fun e2 he => ?_, fun he => by simp [pSl] at he⟩
    simp only [pSl, Option.some.injEq] at he
    subst he
    exact ⟨X, c, d, rfl, hX, fun x t h => (by cases h)⟩
  | n + 1, e, x :: t, w, X, c, c0, d, hn, hw, hX, hd => by
    unfold pSl
    by_cases hx : x = 43 ∨ x = 45
    · rw [if_pos hx]
      have e1 := tk_sign (w := X ++ w) (c := c) (b := b) (d := d) hs hx
      rw [hX.unw (by decide) hw] at e1
      dsimp only at e1
      have ha := a_pAt (st0 := st0) (st := st) (b := b) (d := d) (by omega) (by omega) t (sgo x :: w) (e.reverse ++ c0) (by
        intro y u _
        rcases hs with ⟨z, z2⟩ | ⟨z, z2⟩ <;> subst z <;> subst z2
        · exact tk_3
        · exact tk_5)
      have hq := sfx_pAt t
      unfold Sfx at hq
      have hq2 := hq.length_le
      cases hp : pAt t with
      | mk r o =>
        rw [hp] at ha hq2
        cases o with
        | none => exact ⟨fun e2 he => (by cases he), fun _ => Fls.go (rl_go e1) (ha.2 rfl)⟩
        | some a =>
          obtain ⟨d2, k1, k2⟩ := ha.1 a rfl
          have ih := a_pSl hs (b := b) n (e ++ (a ++ [sgo x])) r w [sgo x] (a.reverse ++ (e.reverse ++ c0)) c0 d2 (by simp at hn; dsimp only at hq2; omega) hw ⟨by
            intro y hy
            simp only [List.mem_singleton] at hy
            rw [hy]
            rcases hx with z | z <;> rw [z] <;> decide, by simp⟩ k2
          have e3 : rl (x :: t) (st, X ++ w, c, b, d) = rl r (st, [sgo x] ++ w, a.reverse ++ (e.reverse ++ c0), b, d2) := (rl_go e1).trans k1
          refine ⟨fun e2 he => ?_, fun he => Fls.go e3 (ih.2 he)⟩
          obtain ⟨X2, c2, d3, m1, m2, m3⟩ := ih.1 e2 he
          exact ⟨X2, c2, d3, e3.trans m1, m2, m3⟩
    · rw [if_neg hx]
      refine ⟨fun e2 he => ?_, fun he => (by cases he)⟩
      simp only [Option.some.injEq] at he
      subst he
      refine ⟨X, c, d, rfl, hX, fun y u h => ?_⟩
      cases h
      exact ⟨by omega, by omega, hd x t rfl⟩
theorem a_pSu {sta st st0 b d : Int} (hs : st = 4 ∧ st0 = 3 ∨ st = 6 ∧ st0 = 5) (h0 : sta ≠ 6 ∧ sta ≠ 7) (l w c : List Int) (hl : l.length ≤ 120) (hw : Spt 5 w) (ht : ∀ (x : Int) (t : List Int), l = x :: t → tk x sta w c b d = tkA x st w c b) :
    (∀ e2, (pSu l).2 = some e2 → ∃ X2 c2 d2, rl l (sta, w, c, b, d) = rl (pSu l).1 (st, X2 ++ w, c2, b, d2) ∧ Wr 5 X2 c2 e2 c ∧ Stz (pSu l).1 d2) ∧ ((pSu l).2 = none → Fls l (sta, w, c, b, d) (pSu l).1) := by
  have ha := a_pAt (st0 := sta) (st := st) (b := b) (d := d) (by omega) h0 l w c ht
  have hq := sfx_pAt l
  unfold Sfx at hq
  have hq2 := hq.length_le
  unfold pSu
  cases hp : pAt l with
  | mk r o =>
    rw [hp] at ha hq2
    dsimp only at hq2
    cases o with
    | none => exact ⟨fun e2 he => (by cases he), fun _ => ha.2 rfl⟩
    | some a =>
      obtain ⟨d2, k1, k2⟩ := ha.1 a rfl
      have ih := a_pSl hs (b := b) 4096 a r w [] (a.reverse ++ c) c d2 (by omega) hw ⟨by simp, by simp⟩ k2
      refine ⟨fun e2 he => ?_, fun he => Fls.go k1 (ih.2 he)⟩
      obtain ⟨X2, c2, d3, m1, m2, m3⟩ := ih.1 e2 he
      exact ⟨X2, c2, d3, k1.trans m1, m2, m3⟩
/-- a factor (a term, an EXPR) ends here -/
def Ste (r : List Int) (st d : Int) : Prop := st = 7 ∨ (st = 6 ∧ Stz r d)
theorem Ste.tk {x st : Int} {t w c : List Int} {b d : Int} (h : Ste (x :: t) st d) : tk x st w c b d = tkJ x w c b d := by
  rcases h with e | ⟨e, h⟩ <;> subst e
  · exact tk_7
  · obtain ⟨h1, h2, h3⟩ := h x t rfl
    exact tk_6 h3 h1 h2
/-- read from state 2, with w waiting and c written -/
def Rd (lv : Int) (Z : Int → Prop) (p : PR) (l w c : List Int) (b d : Int) : Prop :=
  (∀ e, p.2 = some e → ∃ st X c2 d2, rl l (2, w, c, b, d) = rl p.1 (st, X ++ w, c2, b, d2) ∧ Wr lv X c2 e c ∧ Ste p.1 st d2 ∧ ∀ x t, p.1 = x :: t → Z x) ∧ (p.2 = none → Fls l (2, w, c, b, d) p.1)
theorem stren_cop (y : Int) : stren (cop y) = 4 := by
  unfold cop
  split
  · decide
  · split <;> decide
theorem tk_2 {x : Int} {w c : List Int} {b d : Int} (h1 : x ≠ 33) (h2 : x ≠ 40) : tk x 2 w c b d = tkA x 4 w c b := by
  unfold tk
  rw [if_pos rfl, if_neg h1, if_neg (by omega)]
theorem a_pTs {x : Int} {t w c : List Int} {b d : Int} (h1 : x ≠ 33) (h2 : x ≠ 40) (hl : (x :: t).length ≤ 120) (hw : Spt 4 w) : Rd 3 (fun _ => True) (pTs (x :: t)) (x :: t) w c b d := by
  have ha := a_pSu (sta := 2) (st := 4) (st0 := 3) (b := b) (d := d) (by omega) (by omega) (x :: t) w c hl (hw.up (by decide)) (by
    intro y u h
    cases h
    exact tk_2 h1 h2)
  have hq := sfx_pSu (x :: t)
  unfold Sfx at hq
  have hq2 := hq.length_le
  unfold pTs
  cases hp : pSu (x :: t) with
  | mk r o =>
    rw [hp] at ha hq2
    dsimp only at hq2
    cases o with
    | none => exact ⟨fun e2 he => (by cases he), fun _ => ha.2 rfl⟩
    | some e =>
      obtain ⟨X, c1, d1, k1, k2, k3⟩ := ha.1 e rfl
      dsimp only at k1 k3
      cases r with
      | nil => exact ⟨fun e2 he => (by cases he), fun _ => ⟨_, k1, Or.inr (show (4 : Int) ≠ 6 ∧ (4 : Int) ≠ 7 by decide)⟩⟩
      | cons y u =>
        obtain ⟨z1, z2, z3⟩ := k3 y u rfl
        have e0 : tk y 4 (X ++ w) c1 b d1 = tkT y (X ++ w) c1 b d1 := tk_4 z3 z1 z2
        show Rd 3 _ (if y = 60 ∨ y = 62 ∨ y = 61 then _ else _) _ _ _ _ _
        by_cases hy : y = 60 ∨ y = 62 ∨ y = 61
        · rw [if_pos hy]
          have e1 : tk y 4 (X ++ w) c1 b d1 = some (5, cop y :: w, e.reverse ++ c, b, d1) := by
            rw [e0]
            unfold tkT
            rw [if_pos hy, k2.unw (by decide) hw]
          have hb := a_pSu (sta := 5) (st := 6) (st0 := 5) (b := b) (d := d1) (by omega) (by omega) u (cop y :: w) (e.reverse ++ c) (by simp only [List.length_cons] at hq2 hl; omega) (show stren (cop y) < 5 by rw [stren_cop]; decide) (fun _ _ _ => tk_5)
          have k4 := k1.trans (rl_go e1)
          cases hp2 : pSu u with
          | mk r2 o2 =>
            rw [hp2] at hb
            cases o2 with
            | none => exact ⟨fun e2 he => (by cases he), fun _ => Fls.go k4 (hb.2 rfl)⟩
            | some e2 =>
              refine ⟨fun e3 he => ?_, fun he => (by cases he)⟩
              simp only [Option.some.injEq] at he
              subst he
              obtain ⟨X2, c2, d2, m1, m2, m3⟩ := hb.1 e2 rfl
              refine ⟨6, X2 ++ [cop y], c2, d2, ?_, ⟨?_, ?_⟩, Or.inr ⟨rfl, m3⟩, fun _ _ _ => trivial⟩
              · rw [k4, m1]
                simp
              · intro z hz
                rcases List.mem_append.mp hz with q | q
                · have := m2.1 z q; omega
                · simp only [List.mem_singleton] at q
                  subst q
                  rw [stren_cop]; decide
              · rw [List.reverse_append, List.append_assoc, m2.2]
                simp
        · rw [if_neg hy]
          refine ⟨fun e2 he => (by cases he), fun _ => ⟨_, k1, ?_⟩⟩
          show tk y 4 (X ++ w) c1 b d1 = none
          rw [e0]
          unfold tkT
          rw [if_neg hy]
theorem tkJ_and {w c : List Int} {b d : Int} : tkJ 38 w c b d = some (2, -13 :: (unw 2 w c).1, (unw 2 w c).2, b, d) := by
  unfold tkJ
  rw [if_neg (by omega), if_pos rfl]
theorem tkJ_or {w c : List Int} {b d : Int} : tkJ 124 w c b d = some (2, -14 :: (unw 1 w c).1, (unw 1 w c).2, b, d) := by
  unfold tkJ
  rw [if_neg (by omega), if_neg (by omega), if_pos rfl]
theorem a_pTl {F : List Int → PR} {N : Nat} {b : Int} (hS : ∀ l, Sfx l (F l)) (hF : ∀ l w c d, l.length < N → l.length ≤ 120 → Spt 4 w → Rd 3 (fun _ => True) (F l) l w c b d) : ∀ (n : Nat) (e l w X c c0 : List Int) (st d : Int), l.length < n → l.length ≤ N → l.length ≤ 120 → Spt 2 w → Wr 2 X c e c0 → Ste l st d →
    (∀ e2, (pTl F n e l).2 = some e2 → ∃ st2 X2 c2 d2, rl l (st, X ++ w, c, b, d) = rl (pTl F n e l).1 (st2, X2 ++ w, c2, b, d2) ∧ Wr 2 X2 c2 e2 c0 ∧ Ste (pTl F n e l).1 st2 d2 ∧ ∀ x t, (pTl F n e l).1 = x :: t → x ≠ 38) ∧ ((pTl F n e l).2 = none → Fls l (st, X ++ w, c, b, d) (pTl F n e l).1)
  | 0, _, _, _, _, _, _, _, _, hn, _, _, _, _, _ => absurd hn (Nat.not_lt_zero _)
  | n + 1, e, [], w, X, c, c0, st, d, hn, hN, h120, hw, hX, hd => by
    refine ⟨fun e2 he => ?_, fun he => by simp [pTl] at he⟩
    simp only [pTl, Option.some.injEq] at he
    subst he
    exact ⟨st, X, c, d, rfl, hX, hd, fun x t h => (by cases h)⟩
  | n + 1, e, x :: t, w, X, c, c0, st, d, hn, hN, h120, hw, hX, hd => by
    simp only [List.length_cons] at hn hN h120
    unfold pTl
    by_cases hx : x = 38
    · subst hx
      rw [if_pos rfl]
      have e1 : tk 38 st (X ++ w) c b d = some (2, -13 :: w, e.reverse ++ c0, b, d) := by
        rw [hd.tk, tkJ_and, hX.unw (by decide) hw]
      have ha := hF t (-13 :: w) (e.reverse ++ c0) d (by omega) (by omega) (show stren (-13) < 4 by decide)
      have hq := hS t
      unfold Sfx at hq
      have hq2 := hq.length_le
      cases hp : F t with
      | mk r o =>
        rw [hp] at ha hq2
        dsimp only at hq2
        cases o with
        | none => exact ⟨fun e2 he => (by cases he), fun _ => Fls.go (rl_go e1) (ha.2 rfl)⟩
        | some a =>
          obtain ⟨st2, X2, c2, d2, k1, k2, k3, -⟩ := ha.1 a rfl
          have ih := a_pTl hS hF n (e ++ (a ++ [-13])) r w (X2 ++ [-13]) c2 c0 st2 d2 (by omega) (by omega) (by omega) hw ⟨by
            intro z hz
            rcases List.mem_append.mp hz with q | q
            · have := k2.1 z q; omega
            · simp only [List.mem_singleton] at q
              subst q
              decide, by rw [List.reverse_append, List.append_assoc, k2.2]; simp⟩ k3
          have e3 : rl (38 :: t) (st, X ++ w, c, b, d) = rl r (st2, (X2 ++ [-13]) ++ w, c2, b, d2) := by
            rw [rl_go e1, k1]; simp
          refine ⟨fun e2 he => ?_, fun he => Fls.go e3 (ih.2 he)⟩
          obtain ⟨st3, X3, c3, d3, m1, m2, m3, m4⟩ := ih.1 e2 he
          exact ⟨st3, X3, c3, d3, e3.trans m1, m2, m3, m4⟩
    · rw [if_neg hx]
      refine ⟨fun e2 he => ?_, fun he => (by cases he)⟩
      simp only [Option.some.injEq] at he
      subst he
      refine ⟨st, X, c, d, rfl, hX, hd, fun y u h => ?_⟩
      cases h
      exact hx
theorem a_pTe {F : List Int → PR} {N : Nat} {b : Int} (hS : ∀ l, Sfx l (F l)) (hF : ∀ l w c d, l.length < N → l.length ≤ 120 → Spt 4 w → Rd 3 (fun _ => True) (F l) l w c b d) (l w c : List Int) (d : Int) (hl : l.length < N) (h120 : l.length ≤ 120) (hw : Spt 2 w) : Rd 2 (fun x => x ≠ 38) (pTe F l) l w c b d := by
  have ha := hF l w c d hl h120 (hw.up (by decide))
  have hq := hS l
  unfold Sfx at hq
  have hq2 := hq.length_le
  unfold pTe
  cases hp : F l with
  | mk r o =>
    rw [hp] at ha hq2
    dsimp only at hq2
    cases o with
    | none => exact ⟨fun e2 he => (by cases he), fun _ => ha.2 rfl⟩
    | some a =>
      obtain ⟨st, X, c1, d1, k1, k2, k3, -⟩ := ha.1 a rfl
      have ih := a_pTl hS hF 4096 a r w X c1 c st d1 (by omega) (by omega) (by omega) hw ⟨fun x hx => by have := k2.1 x hx; omega, k2.2⟩ k3
      refine ⟨fun e2 he => ?_, fun he => Fls.go k1 (ih.2 he)⟩
      obtain ⟨st3, X3, c3, d3, m1, m2, m3, m4⟩ := ih.1 e2 he
      exact ⟨st3, X3, c3, d3, k1.trans m1, m2, m3, m4⟩
theorem a_pEl {F : List Int → PR} {N : Nat} {b : Int} (hS : ∀ l, Sfx l (F l)) (hF : ∀ l w c d, l.length < N → l.length ≤ 120 → Spt 2 w → Rd 2 (fun x => x ≠ 38) (F l) l w c b d) : ∀ (n : Nat) (e l w X c c0 : List Int) (st d : Int), l.length < n → l.length ≤ N → l.length ≤ 120 → Spt 1 w → Wr 1 X c e c0 → Ste l st d → (∀ x t, l = x :: t → x ≠ 38) →
    (∀ e2, (pEl F n e l).2 = some e2 → ∃ st2 X2 c2 d2, rl l (st, X ++ w, c, b, d) = rl (pEl F n e l).1 (st2, X2 ++ w, c2, b, d2) ∧ Wr 1 X2 c2 e2 c0 ∧ Ste (pEl F n e l).1 st2 d2 ∧ ∀ x t, (pEl F n e l).1 = x :: t → x ≠ 38 ∧ x ≠ 124) ∧ ((pEl F n e l).2 = none → Fls l (st, X ++ w, c, b, d) (pEl F n e l).1)
  | 0, _, _, _, _, _, _, _, _, hn, _, _, _, _, _, _ => absurd hn (Nat.not_lt_zero _)
  | n + 1, e, [], w, X, c, c0, st, d, hn, hN, h120, hw, hX, hd, h38 => by
    refine ⟨fun e2 he => ?_, fun he => by simp [pEl] at he⟩
    simp only [pEl, Option.some.injEq] at he
    subst he
    exact ⟨st, X, c, d, rfl, hX, hd, fun x t h => (by cases h)⟩
  | n + 1, e, x :: t, w, X, c, c0, st, d, hn, hN, h120, hw, hX, hd, h38 => by
    simp only [List.length_cons] at hn hN h120
    unfold pEl
    by_cases hx : x = 124
    · subst hx
      rw [if_pos rfl]
      have e1 : tk 124 st (X ++ w) c b d = some (2, -14 :: w, e.reverse ++ c0, b, d) := by
        rw [hd.tk, tkJ_or, hX.unw (by decide) hw]
      have ha := hF t (-14 :: w) (e.reverse ++ c0) d (by omega) (by omega) (show stren (-14) < 2 by decide)
      have hq := hS t
      unfold Sfx at hq
      have hq2 := hq.length_le
      cases hp : F t with
      | mk r o =>
        rw [hp] at ha hq2
        dsimp only at hq2
        cases o with
        | none => exact ⟨fun e2 he => (by cases he), fun _ => Fls.go (rl_go e1) (ha.2 rfl)⟩
        | some a =>
          obtain ⟨st2, X2, c2, d2, k1, k2, k3, k4⟩ := ha.1 a rfl
          have ih := a_pEl hS hF n (e ++ (a ++ [-14])) r w (X2 ++ [-14]) c2 c0 st2 d2 (by omega) (by omega) (by omega) hw ⟨by
            intro z hz
            rcases List.mem_append.mp hz with q | q
            · have := k2.1 z q; omega
            · simp only [List.mem_singleton] at q
              subst q
              decide, by rw [List.reverse_append, List.append_assoc, k2.2]; simp⟩ k3 k4
          have e3 : rl (124 :: t) (st, X ++ w, c, b, d) = rl r (st2, (X2 ++ [-14]) ++ w, c2, b, d2) := by
            rw [rl_go e1, k1]; simp
          refine ⟨fun e2 he => ?_, fun he => Fls.go e3 (ih.2 he)⟩
          obtain ⟨st3, X3, c3, d3, m1, m2, m3, m4⟩ := ih.1 e2 he
          exact ⟨st3, X3, c3, d3, e3.trans m1, m2, m3, m4⟩
    · rw [if_neg hx]
      refine ⟨fun e2 he => ?_, fun he => (by cases he)⟩
      simp only [Option.some.injEq] at he
      subst he
      refine ⟨st, X, c, d, rfl, hX, hd, fun y u h => ?_⟩
      cases h
      exact ⟨h38 x t rfl, hx⟩
theorem a_pEx {F : List Int → PR} {N : Nat} {b : Int} (hS : ∀ l, Sfx l (F l)) (hF : ∀ l w c d, l.length < N → l.length ≤ 120 → Spt 2 w → Rd 2 (fun x => x ≠ 38) (F l) l w c b d) (l w c : List Int) (d : Int) (hl : l.length < N) (h120 : l.length ≤ 120) (hw : Spt 1 w) : Rd 1 (fun x => x ≠ 38 ∧ x ≠ 124) (pEx F l) l w c b d := by
  have ha := hF l w c d hl h120 (hw.up (by decide))
  have hq := hS l
  unfold Sfx at hq
  have hq2 := hq.length_le
  unfold pEx
  cases hp : F l with
  | mk r o =>
    rw [hp] at ha hq2
    dsimp only at hq2
    cases o with
    | none => exact ⟨fun e2 he => (by cases he), fun _ => ha.2 rfl⟩
    | some a =>
      obtain ⟨st, X, c1, d1, k1, k2, k3, k4⟩ := ha.1 a rfl
      have ih := a_pEl hS hF 4096 a r w X c1 c st d1 (by omega) (by omega) (by omega) hw ⟨fun x hx => by have := k2.1 x hx; omega, k2.2⟩ k3 k4
      refine ⟨fun e2 he => ?_, fun he => Fls.go k1 (ih.2 he)⟩
      obtain ⟨st3, X3, c3, d3, m1, m2, m3, m4⟩ := ih.1 e2 he
      exact ⟨st3, X3, c3, d3, k1.trans m1, m2, m3, m4⟩
theorem tkJ_no {x : Int} {w c : List Int} {b d : Int} (h : x ≠ 38 ∧ x ≠ 124) (h2 : x ≠ 41 ∨ b ≤ 0) : tkJ x w c b d = none := by
  unfold tkJ
  rw [if_neg (by omega), if_neg h.1, if_neg h.2]
theorem a_pFa : ∀ (n : Nat) (b : Int) (l w c : List Int) (d : Int), 0 ≤ b → b ≤ 8 → l.length < n → l.length ≤ 120 → Spt 4 w → Rd 3 (fun _ => True) (pFa n b l) l w c b d
  | 0, _, _, _, _, _, _, _, hn, _, _ => absurd hn (Nat.not_lt_zero _)
  | n + 1, b, [], w, c, d, hb, hb8, hn, h120, hw => by
    refine ⟨fun e he => by simp [pFa, pFB] at he, fun _ => ⟨_, rfl, Or.inr (show (2 : Int) ≠ 6 ∧ (2 : Int) ≠ 7 by decide)⟩⟩
  | n + 1, b, x :: t, w, c, d, hb, hb8, hn, h120, hw => by
    simp only [List.length_cons] at hn h120
    unfold pFa pFB
    dsimp only
    by_cases h33 : x = 33
    · subst h33
      rw [if_pos rfl]
      have e1 : tk 33 2 w c b d = some (2, -15 :: w, c, b, d) := by
        unfold tk
        rw [if_pos rfl, if_pos rfl]
      have ih := a_pFa n b t (-15 :: w) c d hb hb8 (by omega) (by omega) (show stren (-15) < 4 by decide)
      cases hp : pFa n b t with
      | mk r o =>
        rw [hp] at ih
        cases o with
        | none => exact ⟨fun e2 he => (by cases he), fun _ => Fls.go (rl_go e1) (ih.2 rfl)⟩
        | some e =>
          refine ⟨fun e2 he => ?_, fun he => (by cases he)⟩
          simp only [Option.some.injEq] at he
          subst he
          obtain ⟨st, X, c2, d2, k1, k2, k3, k4⟩ := ih.1 e rfl
          refine ⟨st, X ++ [-15], c2, d2, ?_, ⟨?_, ?_⟩, k3, k4⟩
          · rw [rl_go e1, k1]; simp
          · intro z hz
            rcases List.mem_append.mp hz with q | q
            · exact k2.1 z q
            · simp only [List.mem_singleton] at q
              subst q
              decide
          · rw [List.reverse_append, List.append_assoc, k2.2]; simp
    · rw [if_neg h33]
      by_cases h40 : x = 40
      · subst h40
        rw [if_pos rfl]
        by_cases h8 : b = 8
        · rw [if_pos h8]
          refine ⟨fun e2 he => (by cases he), fun _ => ⟨_, rfl, ?_⟩⟩
          show tk 40 2 w c b d = none
          unfold tk
          rw [if_pos rfl, if_neg (by decide), if_neg (by omega)]
          rfl
        · rw [if_neg h8]
          have e1 : tk 40 2 w c b d = some (2, -16 :: w, c, b + 1, d) := by
            unfold tk
            rw [if_pos rfl, if_neg (by decide), if_pos ⟨rfl, by omega⟩]
          have ih := a_pEx (b := b + 1) (N := n) (sfx_pTe (sfx_pFa n (b + 1))) (fun l w c d hl h120 hw => a_pTe (sfx_pFa n (b + 1)) (fun l w c d hl h120 hw => a_pFa n (b + 1) l w c d (by omega) (by omega) hl h120 hw) l w c d hl h120 hw) t (-16 :: w) c d (by omega) (by omega) (show stren (-16) < 1 by decide)
          cases hp : pEx (pTe (pFa n (b + 1))) t with
          | mk r o =>
            rw [hp] at ih
            cases o with
            | none => exact ⟨fun e2 he => (by cases he), fun _ => Fls.go (rl_go e1) (ih.2 rfl)⟩
            | some e =>
              obtain ⟨st, X, c2, d2, k1, k2, k3, k4⟩ := ih.1 e rfl
              dsimp only at k1 k3 k4
              cases r with
              | nil => exact ⟨fun e2 he => (by cases he), fun _ => Fls.go ((rl_go e1).trans k1) ⟨_, rfl, Or.inl (show 0 < b + 1 by omega)⟩⟩
              | cons y u =>
                show Rd 3 _ (if y = 41 then (u, some e) else (y :: u, none)) _ _ _ _ _
                by_cases h41 : y = 41
                · subst h41
                  rw [if_pos rfl]
                  have e2 : tk 41 st (X ++ -16 :: w) c2 (b + 1) d2 = some (7, w, e.reverse ++ c, b, d2) := by
                    rw [k3.tk]
                    unfold tkJ
                    rw [if_pos ⟨rfl, by omega⟩, k2.unw (lv2 := 1) (w := -16 :: w) (by decide) (show stren (-16) < 1 by decide), show b + 1 - 1 = b by omega]
                    rfl
                  refine ⟨fun e3 he => ?_, fun he => (by cases he)⟩
                  simp only [Option.some.injEq] at he
                  subst he
                  exact ⟨7, [], e.reverse ++ c, d2, ((rl_go e1).trans k1).trans (rl_go e2), ⟨by simp, by simp⟩, Or.inl rfl, fun _ _ _ => trivial⟩
                · rw [if_neg h41]
                  refine ⟨fun e2 he => (by cases he), fun _ => Fls.go ((rl_go e1).trans k1) ⟨_, rfl, ?_⟩⟩
                  show tk y st (X ++ -16 :: w) c2 (b + 1) d2 = none
                  rw [k3.tk, tkJ_no (k4 y u rfl) (Or.inl h41)]
      · rw [if_neg h40]
        exact a_pTs h33 h40 (by simp only [List.length_cons]; omega) hw
/-- the whole of the text behind the colon -/
theorem a_top (u : List Int) (d : Int) (h : u.length ≤ 118) :
    (∀ e, pEx (pTe (pFa 128 0)) u = ([], some e) → ∃ st X c2 d2, rl u (2, [], [], 0, d) = ([], (st, X, c2, 0, d2)) ∧ (st = 6 ∨ st = 7) ∧ unw 1 X c2 = ([], e.reverse)) ∧ (∀ r o, pEx (pTe (pFa 128 0)) u = (r, o) → r ≠ [] ∨ o = none → Fls u (2, [], [], 0, d) r) := by
  have ih := a_pEx (b := 0) (N := 128) (sfx_pTe (sfx_pFa 128 0)) (fun l w c d hl h120 hw => a_pTe (sfx_pFa 128 0) (fun l w c d hl h120 hw => a_pFa 128 0 l w c d (by omega) (by omega) hl h120 hw) l w c d hl h120 hw) u [] [] d (by omega) (by omega) trivial
  refine ⟨fun e he => ?_, fun r o he h2 => ?_⟩
  · rw [he] at ih
    obtain ⟨st, X, c2, d2, k1, k2, k3, k4⟩ := ih.1 e rfl
    refine ⟨st, X, c2, d2, ?_, ?_, ?_⟩
    · rw [k1]
      show ([], (st, X ++ [], c2, (0 : Int), d2)) = _
      rw [List.append_nil]
    · rcases k3 with z | z
      · exact Or.inr z
      · exact Or.inl z.1
    · have := k2.unw (lv2 := 1) (w := []) (by decide) trivial
      rw [List.append_nil, List.append_nil] at this
      exact this
  · rw [he] at ih
    cases o with
    | none => exact ih.2 rfl
    | some e =>
      rcases h2 with h2 | h2
      · obtain ⟨st, X, c2, d2, k1, k2, k3, k4⟩ := ih.1 e rfl
        dsimp only at k1 k3 k4
        cases r with
        | nil => exact absurd rfl h2
        | cons y r =>
          refine ⟨_, k1, ?_⟩
          show tk y st (X ++ []) c2 0 d2 = none
          rw [k3.tk, tkJ_no (k4 y r rfl) (Or.inr (by decide))]
      · cases h2
