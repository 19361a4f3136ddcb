/-! ===== the reference works a text it has read: the value that its steps leave ===== -/
def Wfr (w : Int) (T0 T : Sg) : Prop := ∀ (g : Nat) (r k j : Int), ¬ (g = 5 ∧ r = w ∧ k = 0 ∧ j = 48) → T g r k j = T0 g r k j
def WE (L : List Int) (w : Int) (F : Int → Int) (T0 : Sg) : Prop :=
  L.length ≤ 120 ∧ Ltr (T0 5 w 35) L ∧ T0 5 w 35 L.length = 0 ∧ T0 5 w 0 47 = 1 ∧ ∀ (U : Sg) (c : Int), Wfr w T0 U → fldS c < 0 → zf_W_field w c U = some (F (-1 - fldS c), U)
def Wst (L : List Int) (w : Int) (T0 : Sg) (l : List Int) (T : Sg) : Prop := Wfr w T0 T ∧ T 5 w 0 48 = L.length - l.length ∧ l <:+ L
theorem Wst.ck {L : List Int} {w : Int} {F : Int → Int} {T0 T : Sg} {l : List Int} (he : WE L w F T0) (h : Wst L w T0 l T) : T 5 w 0 47 = 1 ∧ (0 ≤ T 5 w 0 48 ∧ T 5 w 0 48 < 121) ∧ T 5 w 35 (T 5 w 0 48) = l.headD 0 := by
  obtain ⟨e1, e2, e3, e4, e5⟩ := he
  obtain ⟨h1, h2, h3⟩ := h
  have hl := h3.length_le
  refine ⟨by rw [h1 5 w 0 47 (by omega)]; exact e4, by omega, ?_⟩
  rw [h1 5 w 35 _ (by omega), h2]
  cases l with
  | nil => simpa using e3
  | cons x t =>
    have := e2 x t h3
    simpa using this
theorem Wst.go {L : List Int} {w : Int} {F : Int → Int} {T0 T : Sg} {x : Int} {t : List Int} (he : WE L w F T0) (h : Wst L w T0 (x :: t) T) : Wst L w T0 t (zu T 5 w 0 48 (zw (T 5 w 0 48 + 1))) := by
  have hl := sfx_len h.2.2
  have h2 := h.2.1
  have h1 := he.1
  simp only [List.length_cons] at h2
  refine ⟨fun g r k j q => ?_, ?_, (sfx_cons x t).trans h.2.2⟩
  · exact (if_neg (by omega)).trans (h.1 g r k j q)
  · rw [zu_at, zw_in (by omega) (by omega), h2]; omega
theorem zw_addw (x y : Int) : zw (x + zw y) = zw (x + y) := by
  unfold zw
  exact Int.add_bmod_bmod
theorem w_pDg {L : List Int} {w : Int} {F : Int → Int} {T0 : Sg} (he : WE L w F T0) : ∀ (n : Nat) (l : List Int) (v c : Int) (T : Sg) (r e : List Int), l.length < n → Wst L w T0 l T → Dg v c → pDg v c l = (r, some e) → ∃ T2 u, zf_W_atom_40 w n v T = some (u, T2) ∧ Wst L w T0 r T2 ∧ e = [u] ∧ 0 ≤ u
  | 0, _, _, _, _, _, _, hn, _, _, _ => absurd hn (Nat.not_lt_zero _)
  | n + 1, [], v, c, T, r, e, hn, h, hd, hp => by
    obtain ⟨c1, c2, c3⟩ := h.ck he
    cases hp
    rw [zf_W_atom_40, zck_b c1, zck_b c2, c3, if_pos (by decide)]
    exact ⟨T, v, rfl, h, rfl, hd.1⟩
  | n + 1, x :: t, v, c, T, r, e, hn, h, hd, hp => by
    obtain ⟨c1, c2, c3⟩ := h.ck he
    have g1 := h.go he
    rw [zf_W_atom_40, zck_b c1, zck_b c2, c3, List.headD_cons]
    unfold pDg at hp
    by_cases hx : dgt x
    · obtain ⟨x1, x2⟩ := id hx
      rw [if_neg (by omega), if_neg (by omega), zlt_v, zlt_v, show zu T 5 w 0 48 (zw (T 5 w 0 48 + 1)) 5 w 35 (T 5 w 0 48) = x by
        rw [zu_ne (by omega)]; exact c3]
      rw [if_pos hx] at hp
      by_cases h4 : c = 4 ∨ v = 0
      · rw [if_pos h4] at hp; cases hp
      · rw [if_neg h4] at hp
        simp only [List.length_cons] at hn
        exact w_pDg he n t _ (c + 1) _ r e (by omega) g1 (hd.next (by omega) (by omega) hx).1 hp
    · rw [if_neg hx] at hp
      cases hp
      refine ⟨T, v, ?_, h, rfl, hd.1⟩
      unfold dgt at hx
      by_cases a : x < 48
      · rw [if_pos a]
      · rw [if_neg a, if_pos (by omega)]
theorem w_pAt {L : List Int} {w : Int} {F : Int → Int} {T0 : Sg} (he : WE L w F T0) {l : List Int} {T : Sg} {r e : List Int} (h : Wst L w T0 l T) (hp : pAt l = (r, some e)) : ∃ T2 u, zf_W_atom w T = some (u, T2) ∧ Wst L w T0 r T2 ∧ Ev F e u := by
  cases l with
  | nil => cases hp
  | cons x t =>
    have hl := sfx_len h.2.2
    have hL := he.1
    obtain ⟨c1, c2, c3⟩ := h.ck he
    have g1 := h.go he
    unfold zf_W_atom
    rw [zck_b c1, zlt_v, zck_b c2, show zu T 5 w 0 48 (zw (T 5 w 0 48 + 1)) 5 w 35 (T 5 w 0 48) = x by
        rw [zu_ne (by omega)]; exact c3, zlt_v]
    rw [pAt_cons] at hp
    by_cases hx : dgt x
    · obtain ⟨x1, x2⟩ := id hx
      rw [if_neg (by omega), if_pos (by omega), zlt_v, zw_in (x := x - 48) (by omega) (by omega)]
      rw [if_pos hx] at hp
      obtain ⟨T2, u, k1, k2, k3, k4⟩ := w_pDg he 4096 t (x - 48) 1 _ r e (by omega) g1 (by unfold Dg; omega) hp
      subst k3
      exact ⟨T2, u, k1, k2, Ev.num k4⟩
    · rw [if_neg hx] at hp
      have e0 : ∀ y z : Option (Int × Sg), (if x < 48 then y else if x ≤ 57 then z else y) = y := by
        intro y z
        unfold dgt at hx
        by_cases a : x < 48
        · rw [if_pos a]
        · rw [if_neg a, if_neg (by omega)]
      rw [e0]
      by_cases hf : fldS x < 0
      · rw [if_pos hf] at hp
        cases hp
        unfold zf_W_atom_29
        rw [he.2.2.2.2 _ x g1.1 hf, zbd_s]
        exact ⟨_, _, rfl, g1, Ev.fld hf (fldS_le x).1⟩
      · rw [if_neg hf] at hp
        cases hp
theorem w_pSl {L : List Int} {w : Int} {F : Int → Int} {T0 : Sg} (he : WE L w F T0) : ∀ (n : Nat) (e l : List Int) (v : Int) (T : Sg) (r e2 : List Int), Wst L w T0 l T → Ev F e v → pSl n e l = (r, some e2) → ∃ T2 u, zf_W_sum_5 w n v T = some (u, T2) ∧ Wst L w T0 r T2 ∧ Ev F e2 u
  | 0, _, _, _, _, _, _, _, _, hp => by cases hp
  | n + 1, e, [], v, T, r, e2, h, hv, hp => by
    obtain ⟨c1, c2, c3⟩ := h.ck he
    cases hp
    rw [zf_W_sum_5, zck_b c1, zck_b c2, c3, if_neg (by decide), if_neg (by decide)]
    exact ⟨T, v, rfl, h, hv⟩
  | n + 1, e, x :: t, v, T, r, e2, h, hv, hp => by
    obtain ⟨c1, c2, c3⟩ := h.ck he
    have g1 := h.go he
    rw [zf_W_sum_5, zck_b c1, zck_b c2, c3, List.headD_cons]
    unfold pSl at hp
    by_cases hx : x = 43 ∨ x = 45
    · rw [if_pos hx] at hp
      have e0 : ∀ y z : Option (Int × Sg), (if x = 43 then y else if x = 45 then y else z) = y := by
        intro y z
        by_cases a : x = 43
        · rw [if_pos a]
        · rw [if_neg a, if_pos (by omega)]
      rw [e0]
      unfold zf_W_sum_33 zf_W_sum_59
      rw [zck_b c1, zlt_v, zck_b c2, show zu T 5 w 0 48 (zw (T 5 w 0 48 + 1)) 5 w 35 (T 5 w 0 48) = x by
        rw [zu_ne (by omega)]; exact c3]
      cases ha : pAt t with
      | mk r1 o =>
        rw [ha] at hp
        cases o with
        | none => cases hp
        | some a =>
          obtain ⟨T2, u, k1, k2, k3⟩ := w_pAt he g1 ha
          by_cases h43 : x = 43
          · have hs : sgo x = -8 := if_pos h43
            have hev := hv.bin (o := sgo x) k3 (by rw [hs]; decide) (by rw [hs]; decide)
            rw [if_pos h43, k1, zbd_s, zlt_v, zw_addw, show 1 * u = u by omega]
            rw [show jnd (sgo x) v u = zw (v + u) by rw [hs]; rfl] at hev
            exact w_pSl he n _ r1 _ T2 r e2 k2 hev hp
          · have hs : sgo x = -9 := if_neg h43
            have hev := hv.bin (o := sgo x) k3 (by rw [hs]; decide) (by rw [hs]; decide)
            rw [if_neg h43, k1, zbd_s, zlt_v, zw_addw, show v + -1 * u = v - u by omega]
            rw [show jnd (sgo x) v u = zw (v - u) by rw [hs]; rfl] at hev
            exact w_pSl he n _ r1 _ T2 r e2 k2 hev hp
    · rw [if_neg hx] at hp
      cases hp
      rw [if_neg (by omega), if_neg (by omega)]
      exact ⟨T, v, rfl, h, hv⟩
theorem w_pSu {L : List Int} {w : Int} {F : Int → Int} {T0 : Sg} (he : WE L w F T0) {l : List Int} {T : Sg} {r e : List Int} (h : Wst L w T0 l T) (hp : pSu l = (r, some e)) : ∃ T2 u, zf_W_sum w T = some (u, T2) ∧ Wst L w T0 r T2 ∧ Ev F e u := by
  unfold pSu at hp
  unfold zf_W_sum
  cases ha : pAt l with
  | mk r1 o =>
    rw [ha] at hp
    cases o with
    | none => cases hp
    | some a =>
      obtain ⟨T2, u, k1, k2, k3⟩ := w_pAt he h ha
      rw [k1, zbd_s]
      exact w_pSl he 4096 a r1 u T2 r e k2 k3 hp
abbrev b2 (v : Int) : Prop := v = 0 ∨ v = 1
theorem b2_ite (p : Prop) [Decidable p] : b2 (if p then (0 : Int) else 1) := by
  split
  · exact Or.inl rfl
  · exact Or.inr rfl
theorem b2_ite1 (p : Prop) [Decidable p] : b2 (if p then (1 : Int) else 0) := by
  split
  · exact Or.inr rfl
  · exact Or.inl rfl
def WRs (L : List Int) (w : Int) (F : Int → Int) (T0 : Sg) (r e : List Int) (z : Option (Int × Sg)) : Prop := ∃ T2 u, z = some (u, T2) ∧ Wst L w T0 r T2 ∧ Ev F e u ∧ b2 u
theorem ite_some2 {p : Prop} [Decidable p] {a b : Int} {S : Sg} : (if p then some (a, S) else some (b, S)) = some (if p then a else b, S) := by
  split <;> rfl
theorem w_pTs {L : List Int} {w : Int} {F : Int → Int} {T0 : Sg} (he : WE L w F T0) (f1 f2 : Sg → Option (Int × Sg)) {x : Int} {t : List Int} {T : Sg} {r e : List Int} (h33 : x ≠ 33) (h40 : x ≠ 40) (h : Wst L w T0 (x :: t) T) (hp : pTs (x :: t) = (r, some e)) : WRs L w F T0 r e (zf_W_factor_B w f1 f2 T) := by
  obtain ⟨c1, c2, c3⟩ := h.ck he
  unfold zf_W_factor_B
  rw [zck_b c1, zck_b c2, c3, List.headD_cons, if_neg h33, if_neg h40]
  unfold pTs at hp
  cases ha : pSu (x :: t) with
  | mk r1 o =>
    rw [ha] at hp
    cases o with
    | none => cases hp
    | some e1 =>
      obtain ⟨T2, u, k1, k2, k3⟩ := w_pSu he h ha
      rw [k1, zbd_s]
      cases r1 with
      | nil => cases hp
      | cons y s =>
        obtain ⟨d1, d2, d3⟩ := k2.ck he
        have g1 := k2.go he
        rw [zck_b d1, zlt_v, zck_b d2, show zu T2 5 w 0 48 (zw (T2 5 w 0 48 + 1)) 5 w 35 (T2 5 w 0 48) = y by
          rw [zu_ne (by omega)]; exact d3, zlt_v]
        replace hp : (if y = 60 ∨ y = 62 ∨ y = 61 then (match pSu s with
          | (r, none) => ((r, none) : PR)
          | (r, some e2) => (r, some (e1 ++ (e2 ++ [cop y])))) else (y :: s, none)) = (r, some e) := hp
        by_cases hy : y = 60 ∨ y = 62 ∨ y = 61
        · rw [if_pos hy] at hp
          cases hb : pSu s with
          | mk r2 o2 =>
            rw [hb] at hp
            cases o2 with
            | none => cases hp
            | some e2 =>
              cases hp
              obtain ⟨T3, u2, m1, m2, m3⟩ := w_pSu he g1 hb
              rw [m1, zbd_s]
              have hev := k3.bin (o := cop y) m3 (by unfold cop; repeat' split; all_goals omega) (by unfold cop; repeat' split; all_goals omega)
              refine ⟨T3, jnd (cop y) u u2, ?_, m2, hev, ?_⟩
              · rcases hy with e | e | e <;> subst e
                · rw [if_pos rfl, ite_some2]; rfl
                · rw [if_neg (by decide), if_pos rfl, ite_some2]; rfl
                · rw [if_neg (by decide), if_neg (by decide), ite_some2]; rfl
              · rcases hy with e | e | e <;> subst e
                · exact b2_ite (u2 ≤ u)
                · exact b2_ite (u ≤ u2)
                · exact b2_ite1 (u = u2)
        · rw [if_neg hy] at hp
          cases hp
theorem b2_and {x y : Int} (hx : b2 x) (hy : b2 y) : b2 (zand x y) := by
  rcases hx with e | e <;> rcases hy with f | f <;> subst e <;> subst f <;> decide
theorem b2_or {x y : Int} (hx : b2 x) (hy : b2 y) : b2 (zor x y) := by
  rcases hx with e | e <;> rcases hy with f | f <;> subst e <;> subst f <;> decide
theorem w_pTl {L : List Int} {w : Int} {F : Int → Int} {T0 : Sg} (he : WE L w F T0) {G : List Int → PR} {fG : Sg → Option (Int × Sg)} (hG : ∀ l T r e, Wst L w T0 l T → G l = (r, some e) → WRs L w F T0 r e (fG T)) : ∀ (n : Nat) (e l : List Int) (v : Int) (T : Sg) (r e2 : List Int), Wst L w T0 l T → Ev F e v → b2 v → pTl G n e l = (r, some e2) → WRs L w F T0 r e2 (zf_W_term_5 w fG n v T)
  | 0, _, _, _, _, _, _, _, _, _, hp => by cases hp
  | n + 1, e, [], v, T, r, e2, h, hv, hb, hp => by
    obtain ⟨c1, c2, c3⟩ := h.ck he
    cases hp
    rw [zf_W_term_5, zck_b c1, zck_b c2, c3, if_neg (by decide), zck_b hb]
    exact ⟨T, v, rfl, h, hv, hb⟩
  | n + 1, e, x :: t, v, T, r, e2, h, hv, hb, hp => by
    obtain ⟨c1, c2, c3⟩ := h.ck he
    have g1 := h.go he
    rw [zf_W_term_5, zck_b c1, zck_b c2, c3, List.headD_cons]
    unfold pTl at hp
    by_cases hx : x = 38
    · rw [if_pos hx] at hp ⊢
      rw [zlt_v]
      cases ha : G t with
      | mk r1 o =>
        rw [ha] at hp
        cases o with
        | none => cases hp
        | some a =>
          obtain ⟨T2, u, k1, k2, k3, k4⟩ := hG t _ r1 a g1 ha
          rw [k1, zbd_s, zlt_v]
          exact w_pTl he hG n _ r1 _ T2 r e2 k2 (hv.bin k3 (by decide) (by decide)) (b2_and hb k4) hp
    · rw [if_neg hx] at hp ⊢
      cases hp
      rw [zck_b hb]
      exact ⟨T, v, rfl, h, hv, hb⟩
theorem w_pTe {L : List Int} {w : Int} {F : Int → Int} {T0 : Sg} (he : WE L w F T0) {G : List Int → PR} {fG : Sg → Option (Int × Sg)} (hG : ∀ l T r e, Wst L w T0 l T → G l = (r, some e) → WRs L w F T0 r e (fG T)) (l : List Int) (T : Sg) (r e : List Int) (h : Wst L w T0 l T) (hp : pTe G l = (r, some e)) : WRs L w F T0 r e (zf_W_term_B w fG T) := by
  unfold pTe at hp
  unfold zf_W_term_B
  cases ha : G l with
  | mk r1 o =>
    rw [ha] at hp
    cases o with
    | none => cases hp
    | some a =>
      obtain ⟨T2, u, k1, k2, k3, k4⟩ := hG l _ r1 a h ha
      rw [k1, zbd_s]
      exact w_pTl he hG 4096 a r1 u T2 r e k2 k3 k4 hp
theorem w_pEl {L : List Int} {w : Int} {F : Int → Int} {T0 : Sg} (he : WE L w F T0) {G : List Int → PR} {fG : Sg → Option (Int × Sg)} (hG : ∀ l T r e, Wst L w T0 l T → G l = (r, some e) → WRs L w F T0 r e (fG T)) : ∀ (n : Nat) (e l : List Int) (v : Int) (T : Sg) (r e2 : List Int), Wst L w T0 l T → Ev F e v → b2 v → pEl G n e l = (r, some e2) → WRs L w F T0 r e2 (zf_W_expr_5 w fG n v T)
  | 0, _, _, _, _, _, _, _, _, _, hp => by cases hp
  | n + 1, e, [], v, T, r, e2, h, hv, hb, hp => by
    obtain ⟨c1, c2, c3⟩ := h.ck he
    cases hp
    rw [zf_W_expr_5, zck_b c1, zck_b c2, c3, if_neg (by decide), zck_b hb]
    exact ⟨T, v, rfl, h, hv, hb⟩
  | n + 1, e, x :: t, v, T, r, e2, h, hv, hb, hp => by
    obtain ⟨c1, c2, c3⟩ := h.ck he
    have g1 := h.go he
    rw [zf_W_expr_5, zck_b c1, zck_b c2, c3, List.headD_cons]
    unfold pEl at hp
    by_cases hx : x = 124
    · rw [if_pos hx] at hp ⊢
      rw [zlt_v]
      cases ha : G t with
      | mk r1 o =>
        rw [ha] at hp
        cases o with
        | none => cases hp
        | some a =>
          obtain ⟨T2, u, k1, k2, k3, k4⟩ := hG t _ r1 a g1 ha
          rw [k1, zbd_s, zlt_v]
          exact w_pEl he hG n _ r1 _ T2 r e2 k2 (hv.bin k3 (by decide) (by decide)) (b2_or hb k4) hp
    · rw [if_neg hx] at hp ⊢
      cases hp
      rw [zck_b hb]
      exact ⟨T, v, rfl, h, hv, hb⟩
theorem w_pEx {L : List Int} {w : Int} {F : Int → Int} {T0 : Sg} (he : WE L w F T0) {G : List Int → PR} {fG : Sg → Option (Int × Sg)} (hG : ∀ l T r e, Wst L w T0 l T → G l = (r, some e) → WRs L w F T0 r e (fG T)) (l : List Int) (T : Sg) (r e : List Int) (h : Wst L w T0 l T) (hp : pEx G l = (r, some e)) : WRs L w F T0 r e (zf_W_expr_B w fG T) := by
  unfold pEx at hp
  unfold zf_W_expr_B
  cases ha : G l with
  | mk r1 o =>
    rw [ha] at hp
    cases o with
    | none => cases hp
    | some a =>
      obtain ⟨T2, u, k1, k2, k3, k4⟩ := hG l _ r1 a h ha
      rw [k1, zbd_s]
      exact w_pEl he hG 4096 a r1 u T2 r e k2 k3 k4 hp
theorem w_pFa {L : List Int} {w : Int} {F : Int → Int} {T0 : Sg} (he : WE L w F T0) : ∀ (n : Nat) (b : Int) (l : List Int) (T : Sg) (r e : List Int), Wst L w T0 l T → pFa n b l = (r, some e) → WRs L w F T0 r e (zf_W_factor_D w n T)
  | 0, _, _, _, _, _, _, hp => by cases hp
  | n + 1, b, [], T, r, e, h, hp => by cases hp
  | n + 1, b, x :: t, T, r, e, h, hp => by
    obtain ⟨c1, c2, c3⟩ := h.ck he
    have g1 := h.go he
    unfold zf_W_factor_D
    unfold pFa pFB at hp
    dsimp only at hp
    by_cases h33 : x = 33
    · rw [if_pos h33] at hp
      unfold zf_W_factor_B
      rw [zck_b c1, zck_b c2, c3, List.headD_cons, if_pos h33, zlt_v]
      cases ha : pFa n b t with
      | mk r1 o =>
        rw [ha] at hp
        cases o with
        | none => cases hp
        | some a =>
          cases hp
          obtain ⟨T2, u, k1, k2, k3, k4⟩ := w_pFa he n b t _ r a g1 ha
          rw [k1, zbd_s]
          refine ⟨T2, zw (1 - u), ?_, k2, k3.un, ?_⟩
          · rcases k4 with q | q <;> subst q <;> rfl
          · rcases k4 with q | q <;> subst q <;> decide
    · rw [if_neg h33] at hp
      by_cases h40 : x = 40
      · rw [if_pos h40] at hp
        unfold zf_W_factor_B
        rw [zck_b c1, zck_b c2, c3, List.headD_cons, if_neg h33, if_pos h40, zlt_v]
        by_cases h8 : b = 8
        · rw [if_pos h8] at hp; cases hp
        · rw [if_neg h8] at hp
          cases ha : pEx (pTe (pFa n (b + 1))) t with
          | mk r1 o =>
            rw [ha] at hp
            cases o with
            | none => cases hp
            | some a =>
              cases r1 with
              | nil => cases hp
              | cons y s =>
                replace hp : (if y = 41 then ((s, some a) : PR) else (y :: s, none)) = (r, some e) := hp
                by_cases h41 : y = 41
                · rw [if_pos h41] at hp
                  cases hp
                  obtain ⟨T2, u, k1, k2, k3, k4⟩ := w_pEx he (G := pTe (pFa n (b + 1))) (fG := zf_W_term_B w (zf_W_factor_D w n)) (fun l T r e h hp => w_pTe he (fun l T r e h hp => w_pFa he n (b + 1) l T r e h hp) l T r e h hp) t _ _ _ g1 ha
                  rw [k1, zbd_s, zlt_v, zck_b k4]
                  exact ⟨_, u, rfl, k2.go he, k3, k4⟩
                · rw [if_neg h41] at hp
                  cases hp
      · rw [if_neg h40] at hp
        exact w_pTs he _ _ h33 h40 h hp
/-- a text that is a law: what it says of one -/
theorem w_text {L : List Int} {w : Int} {F : Int → Int} {T0 T : Sg} {e : List Int} (he : WE L w F T0) (hp : (pTx L).2 = some e) (h : Wfr w T0 T) (h2 : T 5 w 0 48 = 2) : ∃ T2 u, zf_W_expr w T = some (u, T2) ∧ Wfr w T0 T2 ∧ Ev F e u ∧ b2 u := by
  cases hL : L with
  | nil => rw [hL] at hp; cases hp
  | cons x t =>
    rw [hL] at hp
    rw [pTx_cons] at hp
    by_cases hx : x = 118 ∨ x = 112 ∨ x = 101 ∨ x = 108
    · rw [if_pos hx] at hp
      cases ht : t with
      | nil => rw [ht] at hp; cases hp
      | cons y u =>
        rw [ht] at hp
        rw [pTc_cons] at hp
        by_cases hy : y = 58
        · rw [if_pos hy] at hp
          cases ha : pEx (pTe (pFa 128 0)) u with
          | mk r o =>
            rw [ha] at hp
            cases o with
            | none => cases hp
            | some a =>
              cases r with
              | nil =>
                cases hp
                have hs : u <:+ L := by rw [hL, ht]; exact (sfx_cons y u).trans (sfx_cons x (y :: u))
                have hw : Wst L w T0 u T := ⟨h, by rw [h2, hL, ht]; simp only [List.length_cons]; omega, hs⟩
                obtain ⟨T2, v, k1, k2, k3, k4⟩ := w_pEx he (G := pTe (pFa 128 0)) (fG := zf_W_term_B w (zf_W_factor_D w 128)) (fun l T r e h hp => w_pTe he (fun l T r e h hp => w_pFa he 128 0 l T r e h hp) l T r e h hp) u T _ _ hw ha
                exact ⟨T2, v, k1, k2.1, k3, k4⟩
              | cons z r => cases hp
        · rw [if_neg hy] at hp; cases hp
    · rw [if_neg hx] at hp; cases hp
