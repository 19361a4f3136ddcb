/-! ===== the reference reads a text: what is left where it stops, or the fault ===== -/
def Mst (L : List Int) (d b : Int) (r : List Int) (S : Sg) : Prop :=
  S 9 0 0 10 = d + 1 ∧ (0 ≤ d ∧ d < 8) ∧ S 9 0 0 11 = L.length ∧ L.length ≤ 120 ∧ S 9 0 0 12 = L.length - r.length ∧ S 9 0 0 13 = b ∧ r <:+ L ∧ ∀ (x : Int) (t : List Int), (x :: t) <:+ L → S 10 d 0 (L.length - (t.length + 1)) = x
def Mfr (S S2 : Sg) : Prop := ∀ (g : Nat) (r k j : Int), ¬ (g = 9 ∧ r = 0 ∧ k = 0 ∧ 12 ≤ j ∧ j ≤ 14) → S2 g r k j = S g r k j
def Mres (L : List Int) (d b : Int) (S : Sg) (p : PR) (o : Option (Int × Sg)) : Prop := ∃ S2, Mfr S S2 ∧ ((p.2 ≠ none ∧ o = some (1, S2) ∧ Mst L d b p.1 S2) ∨ (p.2 = none ∧ o = some (0, S2) ∧ S2 9 0 0 14 = L.length - p.1.length))
theorem Mfr.refl (S : Sg) : Mfr S S := fun _ _ _ _ _ => rfl
theorem Mfr.trans {S S2 S3 : Sg} (h : Mfr S S2) (h2 : Mfr S2 S3) : Mfr S S3 := fun g r k j q => (h2 g r k j q).trans (h g r k j q)
theorem Mfr.put {S : Sg} {j v : Int} (h : 12 ≤ j ∧ j ≤ 14) : Mfr S (zu S 9 0 0 j v) := fun g r k i q => if_neg (fun z => q ⟨z.1, z.2.1, z.2.2.1, by omega, by omega⟩)
theorem Mres.from {L : List Int} {d b : Int} {S S2 : Sg} {p : PR} {o : Option (Int × Sg)} (hf : Mfr S S2) (h : Mres L d b S2 p o) : Mres L d b S p o := by
  obtain ⟨S3, h1, h2⟩ := h
  exact ⟨S3, hf.trans h1, h2⟩
theorem m_here0 {L : List Int} {d b : Int} {S : Sg} (h : Mst L d b [] S) : zf_M_here S = some (-1, S) := by
  obtain ⟨h1, h2, h3, h4, h5, h6, h7, h8⟩ := h
  unfold zf_M_here
  rw [if_pos (by rw [h3, h5]; simp)]
theorem sfx_len {x : Int} {t L : List Int} (h : (x :: t) <:+ L) : t.length + 1 ≤ L.length := by
  have := h.length_le
  simpa using this
theorem m_here1 {L : List Int} {d b x : Int} {t : List Int} {S : Sg} (h : Mst L d b (x :: t) S) : zf_M_here S = some (x, S) := by
  obtain ⟨h1, h2, h3, h4, h5, h6, h7, h8⟩ := h
  have hl := sfx_len h7
  have h9 := h8 x t h7
  unfold zf_M_here
  rw [List.length_cons] at h5
  rw [if_neg (by rw [h3, h5]; omega), zck_b (by rw [h1]; omega), zck_b (by rw [h5]; omega), h1, show d + 1 - 1 = d by omega, h5, ← h9]
  congr 2
theorem m_go {L : List Int} {d b x : Int} {t : List Int} {S : Sg} (h : Mst L d b (x :: t) S) : Mst L d b t (zu S 9 0 0 12 (zw (S 9 0 0 12 + 1))) ∧ Mfr S (zu S 9 0 0 12 (zw (S 9 0 0 12 + 1))) := by
  obtain ⟨h1, h2, h3, h4, h5, h6, h7, h8⟩ := h
  have hl := sfx_len h7
  rw [List.length_cons] at h5
  refine ⟨⟨?_, h2, ?_, h4, ?_, ?_, (sfx_cons x t).trans h7, ?_⟩, Mfr.put (by decide)⟩
  · simp [zu, h1]
  · simp [zu, h3]
  · rw [zu_at, zw_in (by omega) (by omega), h5]; omega
  · simp [zu, h6]
  · intro y u hy
    rw [zu_ne (by omega)]
    exact h8 y u hy
theorem m_wrong {L : List Int} {d b : Int} {r : List Int} {S : Sg} (h : Mst L d b r S) : Mres L d b S (r, none) (zf_M_wrong S) := by
  refine ⟨zu S 9 0 0 14 (S 9 0 0 12), Mfr.put (by decide), Or.inr ⟨rfl, rfl, ?_⟩⟩
  rw [zu_at]
  exact h.2.2.2.2.1
theorem m_wrong2 {L : List Int} {d b : Int} {r : List Int} {S : Sg} (h : Mst L d b r S) : Mres L d b S (r, none) (zbd (zf_M_wrong S) fun a S2 => zck (a = 0 ∨ a = 1) <| some (a, S2)) := m_wrong h
theorem m_dig0 {L : List Int} {d b : Int} {S : Sg} (h : Mst L d b [] S) : zf_M_digitHere S = some (0, S) := by
  unfold zf_M_digitHere
  rw [m_here0 h, zbd_s, if_pos (by decide)]
theorem m_dig1 {L : List Int} {d b x : Int} {t : List Int} {S : Sg} (h : Mst L d b (x :: t) S) : zf_M_digitHere S = some (if dgt x then 1 else 0, S) := by
  unfold zf_M_digitHere
  rw [m_here1 h, zbd_s, m_here1 h]
  by_cases h1 : x < 48
  · rw [if_pos h1, if_neg (show ¬ dgt x by unfold dgt; omega)]
  · rw [if_neg h1, zbd_s]
    by_cases h2 : 57 < x
    · rw [if_pos h2, if_neg (show ¬ dgt x by unfold dgt; omega)]
    · rw [if_neg h2, if_pos (show dgt x by unfold dgt; omega)]
theorem n10 : ¬ ((1 : Int) = 0) := by decide
theorem z00 : (0 : Int) = 0 := rfl
theorem m_digt {L : List Int} {d b x : Int} {t : List Int} {S : Sg} (h : Mst L d b (x :: t) S) (hx : dgt x) : zf_M_digitHere S = some (1, S) := by
  rw [m_dig1 h, if_pos hx]
theorem m_digf {L : List Int} {d b x : Int} {t : List Int} {S : Sg} (h : Mst L d b (x :: t) S) (hx : ¬ dgt x) : zf_M_digitHere S = some (0, S) := by
  rw [m_dig1 h, if_neg hx]
/-- the value of a number so far, and how many digits it has -/
def Dg (v c : Int) : Prop := 0 ≤ v ∧ ((c = 1 ∧ v < 10) ∨ (c = 2 ∧ v < 100) ∨ (c = 3 ∧ v < 1000) ∨ (c = 4 ∧ v < 10000))
theorem Dg.next {v c x : Int} (h : Dg v c) (h0 : v ≠ 0) (h4 : c ≠ 4) (hx : dgt x) : Dg (zw (zw (zw (10 * v) + x) - 48)) (c + 1) ∧ zw (zw (zw (10 * v) + x) - 48) ≠ 0 := by
  unfold Dg at *
  unfold dgt at hx
  rw [zw_in (x := 10 * v) (by omega) (by omega), zw_in (x := 10 * v + x) (by omega) (by omega), zw_in (by omega) (by omega)]
  omega
theorem m_pDg {L : List Int} {d b : Int} : ∀ (n : Nat) (l : List Int) (v c x1 : Int) (S : Sg), l.length < n → Mst L d b l S → Dg v c → (x1 = 0 ∧ v ≠ 0 ∨ x1 ≠ 0 ∧ v = 0 ∧ c = 1) → Mres L d b S (pDg v c l) (zf_M_atom_24 n x1 c S)
  | 0, _, _, _, _, _, hn, _, _, _ => absurd hn (Nat.not_lt_zero _)
  | n + 1, [], v, c, x1, S, _, h, _, _ => by
    rw [zf_M_atom_24, m_dig0 h, zbd_s, if_pos rfl]
    exact ⟨S, Mfr.refl S, Or.inl ⟨by simp [pDg], rfl, h⟩⟩
  | n + 1, x :: t, v, c, x1, S, hn, h, hd, hx1 => by
    rw [zf_M_atom_24]
    unfold pDg
    by_cases hx : dgt x
    · rw [m_digt h hx, zbd_s, if_pos hx, if_neg n10]
      by_cases h4 : c = 4
      · rw [if_pos (Or.inl h4), if_pos h4]
        exact m_wrong2 h
      · rw [if_neg h4]
        rcases hx1 with ⟨q1, q2⟩ | ⟨q1, q2, q3⟩
        · obtain ⟨g1, g2⟩ := m_go h
          rw [if_neg (show ¬ (c = 4 ∨ v = 0) by omega), if_pos q1]
          unfold zf_M_atom_50
          simp only [zlt_v]
          have hc : c < 4 := by unfold Dg at hd; omega
          have hc0 : 0 < c := by unfold Dg at hd; omega
          rw [zw_in (x := c + 1) (by omega) (by omega)]
          obtain ⟨d1, d2⟩ := hd.next q2 h4 hx
          exact Mres.from g2 (m_pDg n t _ (c + 1) x1 _ (by simp at hn; omega) g1 d1 (Or.inl ⟨q1, d2⟩))
        · rw [if_pos (show c = 4 ∨ v = 0 from Or.inr q2), if_neg q1, if_pos q3]
          exact m_wrong2 h
    · rw [m_digf h hx, zbd_s, if_neg hx, if_pos z00]
      exact ⟨S, Mfr.refl S, Or.inl ⟨by simp, rfl, h⟩⟩
theorem m_pAt {L : List Int} {d b : Int} {l : List Int} {S : Sg} (h : Mst L d b l S) : Mres L d b S (pAt l) (zf_M_atom S) := by
  have hlen : l.length < 4096 := by
    have := h.2.2.2.2.2.2.1.length_le
    have := h.2.2.2.1
    omega
  cases l with
  | nil =>
    unfold zf_M_atom
    rw [m_dig0 h, zbd_s, if_pos rfl, m_here0 h, zbd_s, if_neg (by decide), if_neg (by decide), if_neg (by decide), if_neg (by decide), if_neg (by decide), if_neg (by decide), if_neg (by decide)]
    exact m_wrong2 h
  | cons x t =>
    obtain ⟨g1, g2⟩ := m_go h
    unfold zf_M_atom
    rw [pAt_cons]
    by_cases hx : dgt x
    · rw [if_pos hx, m_digt h hx, zbd_s, if_neg n10, m_here1 h, zbd_s]
      have key : ∀ x1 : Int, (x1 = 0 ∧ x - 48 ≠ 0 ∨ x1 ≠ 0 ∧ x - 48 = 0 ∧ (1 : Int) = 1) → Mres L d b S (pDg (x - 48) 1 t) (zf_M_atom_24 4096 x1 0 S) := by
        intro x1 hx1
        rw [show (4096 : Nat) = 4095 + 1 from rfl, zf_M_atom_24, m_digt h hx, zbd_s, if_neg n10, if_neg (show ¬ ((0 : Int) = 4) by decide), if_neg (show ¬ ((0 : Int) = 1) by decide), ite_self]
        unfold zf_M_atom_50
        simp only [zlt_v]
        rw [zw_in (x := 0 + 1) (by omega) (by omega)]
        refine Mres.from g2 (m_pDg 4095 t (x - 48) 1 x1 _ (by simp at hlen; omega) g1 ?_ hx1)
        unfold Dg
        unfold dgt at hx
        omega
      unfold zf_M_atom_21
      by_cases h0 : x = 48
      · rw [if_pos h0]; exact key 1 (Or.inr ⟨by decide, by omega, rfl⟩)
      · rw [if_neg h0]; exact key 0 (Or.inl ⟨rfl, by omega⟩)
    · rw [if_neg hx, m_digf h hx, zbd_s, if_pos z00, m_here1 h, zbd_s]
      unfold zf_M_atom_115
      simp only [zlt_v]
      have ok : Mres L d b S (t, some [fldS x]) (some (1, zu S 9 0 0 12 (zw (S 9 0 0 12 + 1)))) := ⟨_, g2, Or.inl ⟨by simp, rfl, g1⟩⟩
      by_cases a1 : x = 97
      · rw [if_pos a1, if_pos (by subst a1; decide)]; exact ok
      by_cases a2 : x = 107
      · rw [if_neg a1, if_pos a2, if_pos (by subst a2; decide)]; exact ok
      by_cases a3 : x = 104
      · rw [if_neg a1, if_neg a2, if_pos a3, if_pos (by subst a3; decide)]; exact ok
      by_cases a4 : x = 99
      · rw [if_neg a1, if_neg a2, if_neg a3, if_pos a4, if_pos (by subst a4; decide)]; exact ok
      by_cases a5 : x = 115
      · rw [if_neg a1, if_neg a2, if_neg a3, if_neg a4, if_pos a5, if_pos (by subst a5; decide)]; exact ok
      by_cases a6 : x = 119
      · rw [if_neg a1, if_neg a2, if_neg a3, if_neg a4, if_neg a5, if_pos a6, if_pos (by subst a6; decide)]; exact ok
      by_cases a7 : x = 100
      · rw [if_neg a1, if_neg a2, if_neg a3, if_neg a4, if_neg a5, if_neg a6, if_pos a7, if_pos (by subst a7; decide)]; exact ok
      rw [if_neg a1, if_neg a2, if_neg a3, if_neg a4, if_neg a5, if_neg a6, if_neg a7, if_neg (show ¬ fldS x < 0 by unfold fldS; rw [if_neg a1, if_neg a4, if_neg a7, if_neg a3, if_neg a2, if_neg a5, if_neg a6]; decide)]
      exact m_wrong2 h
theorem m_pSl {L : List Int} {d b : Int} : ∀ (n : Nat) (e l : List Int) (S : Sg), l.length < n → Mst L d b l S → Mres L d b S (pSl n e l) (zf_M_sum_9 n S)
  | 0, _, _, _, hn, _ => absurd hn (Nat.not_lt_zero _)
  | n + 1, e, [], S, hn, h => by
    rw [zf_M_sum_9, m_here0 h, zbd_s, if_neg (by decide), m_here0 h, zbd_s, if_neg (by decide)]
    exact ⟨S, Mfr.refl S, Or.inl ⟨by simp [pSl], rfl, h⟩⟩
  | n + 1, e, x :: t, S, hn, h => by
    obtain ⟨g1, g2⟩ := m_go h
    rw [zf_M_sum_9, m_here1 h, zbd_s]
    unfold pSl
    have key : Mres L d b S (match pAt t with
        | (r, none) => (r, none)
        | (r, some a) => pSl n (e ++ (a ++ [sgo x])) r) (zf_M_sum_27 (zf_M_sum_9 n) S) := by
      unfold zf_M_sum_27
      rw [zlt_v]
      obtain ⟨S2, f2, q⟩ := m_pAt g1
      have hs := (sfx_pAt t)
      unfold Sfx at hs
      cases hp : pAt t with
      | mk r o =>
        rw [hp] at q hs
        cases o with
        | none =>
          rcases q with ⟨q1, -⟩ | ⟨-, q2, q3⟩
          · exact absurd rfl q1
          · rw [q2, zbd_s, if_pos z00]
            exact ⟨S2, g2.trans f2, Or.inr ⟨rfl, rfl, q3⟩⟩
        | some a =>
          rcases q with ⟨-, q2, q3⟩ | ⟨q1, -⟩
          · rw [q2, zbd_s, if_neg n10]
            have := hs.length_le
            exact Mres.from (g2.trans f2) (m_pSl n _ r S2 (by simp at hn; dsimp only at this; omega) q3)
          · exact absurd q1 (by simp)
    by_cases h1 : x = 43
    · rw [if_pos (show x = 43 ∨ x = 45 from Or.inl h1), if_pos h1]; exact key
    · rw [if_neg h1, m_here1 h, zbd_s]
      by_cases h2 : x = 45
      · rw [if_pos (show x = 43 ∨ x = 45 from Or.inr h2), if_pos h2]; exact key
      · rw [if_neg (show ¬ (x = 43 ∨ x = 45) by omega), if_neg h2]
        exact ⟨S, Mfr.refl S, Or.inl ⟨by simp, rfl, h⟩⟩
theorem Mst.len {L : List Int} {d b : Int} {l : List Int} {S : Sg} (h : Mst L d b l S) : l.length ≤ 120 := by
  have := h.2.2.2.2.2.2.1.length_le
  have := h.2.2.2.1
  omega
theorem m_pSu {L : List Int} {d b : Int} {l : List Int} {S : Sg} (h : Mst L d b l S) : Mres L d b S (pSu l) (zf_M_sum S) := by
  unfold zf_M_sum pSu
  obtain ⟨S2, f2, q⟩ := m_pAt h
  cases hp : pAt l with
  | mk r o =>
    rw [hp] at q
    cases o with
    | none =>
      rcases q with ⟨q1, -⟩ | ⟨-, q2, q3⟩
      · exact absurd rfl q1
      · rw [q2, zbd_s, if_pos z00]
        exact ⟨S2, f2, Or.inr ⟨rfl, rfl, q3⟩⟩
    | some a =>
      rcases q with ⟨-, q2, q3⟩ | ⟨q1, -⟩
      · rw [q2, zbd_s, if_neg n10]
        exact Mres.from f2 (m_pSl 4096 _ r S2 (by have := Mst.len q3; dsimp only at this; omega) q3)
      · exact absurd q1 (by simp)
theorem m_pTl {L : List Int} {d b : Int} {F : List Int → PR} {fF : Sg → Option (Int × Sg)} {N : Nat} (hF : ∀ l S, l.length < N → Mst L d b l S → Mres L d b S (F l) (fF S)) (hS : ∀ l, Sfx l (F l)) : ∀ (n : Nat) (e l : List Int) (S : Sg), l.length < n → l.length ≤ N → Mst L d b l S → Mres L d b S (pTl F n e l) (zf_M_term_9 fF n S)
  | 0, _, _, _, hn, _, _ => absurd hn (Nat.not_lt_zero _)
  | n + 1, e, [], S, hn, hN, h => by
    rw [zf_M_term_9, m_here0 h, zbd_s, if_neg (by decide)]
    exact ⟨S, Mfr.refl S, Or.inl ⟨by simp [pTl], rfl, h⟩⟩
  | n + 1, e, x :: t, S, hn, hN, h => by
    obtain ⟨g1, g2⟩ := m_go h
    rw [zf_M_term_9, m_here1 h, zbd_s]
    unfold pTl
    by_cases h1 : x = 38
    · rw [if_pos h1, if_pos h1, zlt_v]
      simp only [List.length_cons] at hn hN
      obtain ⟨S2, f2, q⟩ := hF t _ (by omega) g1
      have hs := hS t
      unfold Sfx at hs
      cases hp : F t with
      | mk r o =>
        rw [hp] at q hs
        have := hs.length_le
        dsimp only at this
        cases o with
        | none =>
          rcases q with ⟨q1, -⟩ | ⟨-, q2, q3⟩
          · exact absurd rfl q1
          · rw [q2, zbd_s, if_pos z00]
            exact ⟨S2, g2.trans f2, Or.inr ⟨rfl, rfl, q3⟩⟩
        | some a =>
          rcases q with ⟨-, q2, q3⟩ | ⟨q1, -⟩
          · rw [q2, zbd_s, if_neg n10]
            exact Mres.from (g2.trans f2) (m_pTl hF hS n _ r S2 (by omega) (by omega) q3)
          · exact absurd q1 (by simp)
    · rw [if_neg h1, if_neg h1]
      exact ⟨S, Mfr.refl S, Or.inl ⟨by simp, rfl, h⟩⟩
theorem m_pTe {L : List Int} {d b : Int} {F : List Int → PR} {fF : Sg → Option (Int × Sg)} {N : Nat} (hF : ∀ l S, l.length < N → Mst L d b l S → Mres L d b S (F l) (fF S)) (hS : ∀ l, Sfx l (F l)) {l : List Int} {S : Sg} (hl : l.length < N) (h : Mst L d b l S) : Mres L d b S (pTe F l) (zf_M_term_B fF S) := by
  unfold zf_M_term_B pTe
  obtain ⟨S2, f2, q⟩ := hF l S hl h
  have hs := hS l
  unfold Sfx at hs
  cases hp : F l with
  | mk r o =>
    rw [hp] at q hs
    have := hs.length_le
    dsimp only at this
    cases o with
    | none =>
      rcases q with ⟨q1, -⟩ | ⟨-, q2, q3⟩
      · exact absurd rfl q1
      · rw [q2, zbd_s, if_pos z00]
        exact ⟨S2, f2, Or.inr ⟨rfl, rfl, q3⟩⟩
    | some a =>
      rcases q with ⟨-, q2, q3⟩ | ⟨q1, -⟩
      · rw [q2, zbd_s, if_neg n10]
        exact Mres.from f2 (m_pTl hF hS 4096 _ r S2 (by have := Mst.len q3; dsimp only at this; omega) (by omega) q3)
      · exact absurd q1 (by simp)
theorem m_pEl {L : List Int} {d b : Int} {F : List Int → PR} {fF : Sg → Option (Int × Sg)} {N : Nat} (hF : ∀ l S, l.length < N → Mst L d b l S → Mres L d b S (F l) (fF S)) (hS : ∀ l, Sfx l (F l)) : ∀ (n : Nat) (e l : List Int) (S : Sg), l.length < n → l.length ≤ N → Mst L d b l S → Mres L d b S (pEl F n e l) (zf_M_expr_9 fF n S)
  | 0, _, _, _, hn, _, _ => absurd hn (Nat.not_lt_zero _)
  | n + 1, e, [], S, hn, hN, h => by
    rw [zf_M_expr_9, m_here0 h, zbd_s, if_neg (by decide)]
    exact ⟨S, Mfr.refl S, Or.inl ⟨by simp [pEl], rfl, h⟩⟩
  | n + 1, e, x :: t, S, hn, hN, h => by
    obtain ⟨g1, g2⟩ := m_go h
    rw [zf_M_expr_9, m_here1 h, zbd_s]
    unfold pEl
    by_cases h1 : x = 124
    · rw [if_pos h1, if_pos h1, zlt_v]
      simp only [List.length_cons] at hn hN
      obtain ⟨S2, f2, q⟩ := hF t _ (by omega) g1
      have hs := hS t
      unfold Sfx at hs
      cases hp : F t with
      | mk r o =>
        rw [hp] at q hs
        have := hs.length_le
        dsimp only at this
        cases o with
        | none =>
          rcases q with ⟨q1, -⟩ | ⟨-, q2, q3⟩
          · exact absurd rfl q1
          · rw [q2, zbd_s, if_pos z00]
            exact ⟨S2, g2.trans f2, Or.inr ⟨rfl, rfl, q3⟩⟩
        | some a =>
          rcases q with ⟨-, q2, q3⟩ | ⟨q1, -⟩
          · rw [q2, zbd_s, if_neg n10]
            exact Mres.from (g2.trans f2) (m_pEl hF hS n _ r S2 (by omega) (by omega) q3)
          · exact absurd q1 (by simp)
    · rw [if_neg h1, if_neg h1]
      exact ⟨S, Mfr.refl S, Or.inl ⟨by simp, rfl, h⟩⟩
theorem m_pEx {L : List Int} {d b : Int} {F : List Int → PR} {fF : Sg → Option (Int × Sg)} {N : Nat} (hF : ∀ l S, l.length < N → Mst L d b l S → Mres L d b S (F l) (fF S)) (hS : ∀ l, Sfx l (F l)) {l : List Int} {S : Sg} (hl : l.length < N) (h : Mst L d b l S) : Mres L d b S (pEx F l) (zf_M_expr_B fF S) := by
  unfold zf_M_expr_B pEx
  obtain ⟨S2, f2, q⟩ := hF l S hl h
  have hs := hS l
  unfold Sfx at hs
  cases hp : F l with
  | mk r o =>
    rw [hp] at q hs
    have := hs.length_le
    dsimp only at this
    cases o with
    | none =>
      rcases q with ⟨q1, -⟩ | ⟨-, q2, q3⟩
      · exact absurd rfl q1
      · rw [q2, zbd_s, if_pos z00]
        exact ⟨S2, f2, Or.inr ⟨rfl, rfl, q3⟩⟩
    | some a =>
      rcases q with ⟨-, q2, q3⟩ | ⟨q1, -⟩
      · rw [q2, zbd_s, if_neg n10]
        exact Mres.from f2 (m_pEl hF hS 4096 _ r S2 (by have := Mst.len q3; dsimp only at this; omega) (by omega) q3)
      · exact absurd q1 (by simp)
theorem Mst.deep {L : List Int} {d b b2 : Int} {l : List Int} {S : Sg} (h : Mst L d b l S) : Mst L d b2 l (zu S 9 0 0 13 b2) := by
  obtain ⟨h1, h2, h3, h4, h5, h6, h7, h8⟩ := h
  refine ⟨by simp [zu, h1], h2, by simp [zu, h3], h4, by simp [zu, h5], zu_at .., h7, ?_⟩
  intro y u hy
  rw [zu_ne (by omega)]
  exact h8 y u hy
theorem m_pTs {L : List Int} {d b x : Int} {t : List Int} {S : Sg} (f1 f2 : Sg → Option (Int × Sg)) (h : Mst L d b (x :: t) S) (h33 : x ≠ 33) (h40 : x ≠ 40) : Mres L d b S (pTs (x :: t)) (zf_M_factor_B f1 f2 S) := by
  unfold zf_M_factor_B
  rw [m_here1 h, zbd_s, if_neg h33, m_here1 h, zbd_s, if_neg h40]
  unfold pTs
  obtain ⟨S2, k2, q⟩ := m_pSu h
  cases hp : pSu (x :: t) with
  | mk r o =>
    rw [hp] at q
    cases o with
    | none =>
      rcases q with ⟨q1, -⟩ | ⟨-, q2, q3⟩
      · exact absurd rfl q1
      · rw [q2, zbd_s, if_pos z00]
        exact ⟨S2, k2, Or.inr ⟨rfl, rfl, q3⟩⟩
    | some e =>
      rcases q with ⟨-, q2, q3⟩ | ⟨q1, -⟩
      · rw [q2, zbd_s, if_neg n10]
        dsimp only at q3
        cases r with
        | nil =>
          rw [m_here0 q3, zbd_s, if_neg (show ¬ ((-1 : Int) = 60) by decide), m_here0 q3, zbd_s, if_neg (show ¬ ((-1 : Int) = 62) by decide), m_here0 q3, zbd_s, if_neg (show ¬ ((-1 : Int) = 61) by decide)]
          exact Mres.from k2 (m_wrong2 q3)
        | cons y u =>
          rw [m_here1 q3, zbd_s]
          obtain ⟨g1, g2⟩ := m_go q3
          have key : Mres L d b S (match pSu u with
              | (r, none) => (r, none)
              | (r, some e2) => (r, some (e ++ (e2 ++ [cop y])))) (zf_M_factor_153 f1 f2 S2) := by
            unfold zf_M_factor_153
            rw [zlt_v]
            obtain ⟨S3, k3, w⟩ := m_pSu g1
            cases hp2 : pSu u with
            | mk r2 o2 =>
              rw [hp2] at w
              cases o2 with
              | none =>
                rcases w with ⟨w1, -⟩ | ⟨-, w2, w3⟩
                · exact absurd rfl w1
                · rw [w2, zbd_s, zck_b (by decide)]
                  exact ⟨S3, (k2.trans g2).trans k3, Or.inr ⟨rfl, rfl, w3⟩⟩
              | some e2 =>
                rcases w with ⟨-, w2, w3⟩ | ⟨w1, -⟩
                · rw [w2, zbd_s, zck_b (by decide)]
                  exact ⟨S3, (k2.trans g2).trans k3, Or.inl ⟨by simp, rfl, w3⟩⟩
                · exact absurd w1 (by simp)
          show Mres L d b S (if y = 60 ∨ y = 62 ∨ y = 61 then _ else _) _
          by_cases a1 : y = 60
          · rw [if_pos (show y = 60 ∨ y = 62 ∨ y = 61 from Or.inl a1), if_pos a1]; exact key
          by_cases a2 : y = 62
          · rw [if_pos (show y = 60 ∨ y = 62 ∨ y = 61 by omega), if_neg a1, m_here1 q3, zbd_s, if_pos a2]; exact key
          by_cases a3 : y = 61
          · rw [if_pos (show y = 60 ∨ y = 62 ∨ y = 61 by omega), if_neg a1, m_here1 q3, zbd_s, if_neg a2, m_here1 q3, zbd_s, if_pos a3]; exact key
          rw [if_neg (show ¬ (y = 60 ∨ y = 62 ∨ y = 61) by omega), if_neg a1, m_here1 q3, zbd_s, if_neg a2, m_here1 q3, zbd_s, if_neg a3]
          exact Mres.from k2 (m_wrong2 q3)
      · exact absurd q1 (by simp)
theorem m_pFa {L : List Int} {d : Int} : ∀ (n : Nat) (b : Int) (l : List Int) (S : Sg), l.length < n → 0 ≤ b ∧ b ≤ 8 → Mst L d b l S → Mres L d b S (pFa n b l) (zf_M_factor_D n S)
  | 0, _, _, _, hn, _, _ => absurd hn (Nat.not_lt_zero _)
  | n + 1, b, [], S, hn, hb, h => by
    unfold zf_M_factor_D zf_M_factor_B
    rw [m_here0 h, zbd_s, if_neg (by decide), m_here0 h, zbd_s, if_neg (by decide)]
    obtain ⟨S2, k2, q⟩ := m_pSu h
    rcases q with ⟨q1, -⟩ | ⟨-, q2, q3⟩
    · exact absurd (by simp [pSu, pAt]) q1
    · rw [q2, zbd_s, if_pos z00]
      exact ⟨S2, k2, Or.inr ⟨rfl, rfl, q3⟩⟩
  | n + 1, b, x :: t, S, hn, hb, h => by
    simp only [List.length_cons] at hn
    obtain ⟨g1, g2⟩ := m_go h
    unfold zf_M_factor_D
    unfold pFa pFB
    dsimp only
    by_cases h33 : x = 33
    · unfold zf_M_factor_B
      rw [m_here1 h, zbd_s, if_pos h33, zlt_v, if_pos h33]
      obtain ⟨S2, k2, q⟩ := m_pFa n b t _ (by omega) hb g1
      cases hp : pFa n b t with
      | mk r o =>
        rw [hp] at q
        cases o with
        | none =>
          rcases q with ⟨q1, -⟩ | ⟨-, q2, q3⟩
          · exact absurd rfl q1
          · rw [q2, zbd_s, zck_b (by decide)]
            exact ⟨S2, g2.trans k2, Or.inr ⟨rfl, rfl, q3⟩⟩
        | some e =>
          rcases q with ⟨-, q2, q3⟩ | ⟨q1, -⟩
          · rw [q2, zbd_s, zck_b (by decide)]
            exact ⟨S2, g2.trans k2, Or.inl ⟨by simp, rfl, q3⟩⟩
          · exact absurd q1 (by simp)
    · rw [if_neg h33]
      by_cases h40 : x = 40
      · unfold zf_M_factor_B
        rw [m_here1 h, zbd_s, if_neg h33, m_here1 h, zbd_s, if_pos h40, if_pos h40]
        have hb13 : S 9 0 0 13 = b := h.2.2.2.2.2.1
        by_cases h8 : b = 8
        · rw [hb13, if_pos h8, if_pos h8]
          exact m_wrong2 h
        · rw [hb13, if_neg h8, if_neg h8, zlt_v, zlt_v, zw_in (x := b + 1) (by omega) (by omega)]
          have h2 : Mst L d (b + 1) (x :: t) (zu S 9 0 0 13 (b + 1)) := h.deep
          obtain ⟨e1, e2⟩ := m_go h2
          have e3 : Mfr S (zu S 9 0 0 13 (b + 1)) := Mfr.put (by decide)
          obtain ⟨S2, k2, q⟩ := m_pEx (F := pTe (pFa n (b + 1))) (fF := zf_M_term_B (zf_M_factor_D n)) (N := n) (fun l S hl hS => m_pTe (N := n) (fun l S hl hS => m_pFa n (b + 1) l S hl (by omega) hS) (sfx_pFa n (b + 1)) hl hS) (sfx_pTe (sfx_pFa n (b + 1))) (show t.length < n by omega) e1
          cases hp : pEx (pTe (pFa n (b + 1))) t with
          | mk r o =>
            rw [hp] at q
            cases o with
            | none =>
              rcases q with ⟨q1, -⟩ | ⟨-, q2, q3⟩
              · exact absurd rfl q1
              · rw [q2, zbd_s, if_pos z00]
                exact ⟨S2, (e3.trans e2).trans k2, Or.inr ⟨rfl, rfl, q3⟩⟩
            | some e =>
              rcases q with ⟨-, q2, q3⟩ | ⟨q1, -⟩
              · rw [q2, zbd_s, if_neg n10]
                dsimp only at q3
                cases r with
                | nil =>
                  rw [m_here0 q3, zbd_s, if_neg (by decide)]
                  exact Mres.from ((e3.trans e2).trans k2) (by
                    obtain ⟨S3, w1, w2⟩ := m_wrong2 q3
                    refine ⟨S3, w1, Or.inr ?_⟩
                    rcases w2 with ⟨z, -⟩ | z
                    · exact absurd rfl z
                    · exact z)
                | cons y u =>
                  rw [m_here1 q3, zbd_s]
                  show Mres L d b S (if y = 41 then (u, some e) else (y :: u, none)) _
                  by_cases h41 : y = 41
                  · rw [if_pos h41, if_pos h41, zlt_v, zlt_v]
                    obtain ⟨c1, c2⟩ := m_go q3
                    have c3 := c1.deep (b2 := b)
                    have c4 : zu S2 9 0 0 12 (zw (S2 9 0 0 12 + 1)) 9 0 0 13 = b + 1 := c1.2.2.2.2.2.1
                    rw [c4, zw_in (x := b + 1 - 1) (by omega) (by omega), show b + 1 - 1 = b by omega]
                    exact ⟨_, (((e3.trans e2).trans k2).trans c2).trans (Mfr.put (by decide)), Or.inl ⟨by simp, rfl, c3⟩⟩
                  · rw [if_neg h41, if_neg h41]
                    exact Mres.from ((e3.trans e2).trans k2) (by
                      obtain ⟨S3, w1, w2⟩ := m_wrong2 q3
                      refine ⟨S3, w1, Or.inr ?_⟩
                      rcases w2 with ⟨z, -⟩ | z
                      · exact absurd rfl z
                      · exact z)
              · exact absurd q1 (by simp)
      · rw [if_neg h40]
        exact m_pTs _ _ h h33 h40
/-- a text: its fault, or what it says -/
def pEnd : PR → PR
  | (r, none) => (r, none)
  | ([], some e) => ([], some e)
  | (z :: r, some _) => (z :: r, none)
def pTc : List Int → PR
  | [] => ([], none)
  | y :: u => if y = 58 then pEnd (pEx (pTe (pFa 128 0)) u) else (y :: u, none)
def pTx : List Int → PR
  | [] => ([], none)
  | x :: t => if x = 118 ∨ x = 112 ∨ x = 101 ∨ x = 108 then pTc t else (x :: t, none)
theorem pTc_cons (y : Int) (u : List Int) : pTc (y :: u) = if y = 58 then pEnd (pEx (pTe (pFa 128 0)) u) else (y :: u, none) := rfl
theorem pTx_cons (x : Int) (t : List Int) : pTx (x :: t) = if x = 118 ∨ x = 112 ∨ x = 101 ∨ x = 108 then pTc t else (x :: t, none) := rfl
theorem m_pTx {L : List Int} {d : Int} {S : Sg} (h : Mst L d 0 L S) : Mres L d 0 S (pTx L) (zf_M_text S) := by
  have hL := h.len
  cases hLL : L with
  | nil =>
    subst hLL
    unfold zf_M_text
    rw [m_here0 h, zbd_s, if_neg (by decide), if_neg (by decide), if_neg (by decide), if_neg (by decide)]
    exact m_wrong2 h
  | cons x t =>
    rw [← hLL]
    have h' : Mst L d 0 (x :: t) S := by rw [← hLL]; exact h
    obtain ⟨g1, g2⟩ := m_go h'
    have htl : t.length + 1 ≤ 120 := by rw [hLL] at hL; simpa using hL
    have key : Mres L d 0 S (pTc t) (zf_M_text_34 S) := by
      unfold zf_M_text_34
      rw [zlt_v]
      cases t with
      | nil =>
        rw [m_here0 g1, zbd_s, if_neg (by decide)]
        exact Mres.from g2 (m_wrong2 g1)
      | cons y u =>
        rw [m_here1 g1, zbd_s, pTc_cons]
        by_cases h58 : y = 58
        · rw [if_pos h58, if_pos h58, zlt_v]
          obtain ⟨c1, c2⟩ := m_go g1
          simp only [List.length_cons] at htl
          obtain ⟨S2, k2, q⟩ := m_pEx (F := pTe (pFa 128 0)) (fF := zf_M_term_B (zf_M_factor_D 128)) (N := 128) (fun l S hl hS => m_pTe (N := 128) (fun l S hl hS => m_pFa 128 0 l S hl (by omega) hS) (sfx_pFa 128 0) hl hS) (sfx_pTe (sfx_pFa 128 0)) (show u.length < 128 by omega) c1
          unfold zf_M_expr
          cases hp : pEx (pTe (pFa 128 0)) u with
          | mk r o =>
            rw [hp] at q
            cases o with
            | none =>
              rcases q with ⟨q1, -⟩ | ⟨-, q2, q3⟩
              · exact absurd rfl q1
              · rw [q2, zbd_s, if_pos z00]
                exact ⟨S2, (g2.trans c2).trans k2, Or.inr ⟨rfl, rfl, q3⟩⟩
            | some e =>
              rcases q with ⟨-, q2, q3⟩ | ⟨q1, -⟩
              · rw [q2, zbd_s, if_neg n10]
                dsimp only at q3
                cases r with
                | nil =>
                  rw [if_pos (by rw [q3.2.2.1, q3.2.2.2.2.1]; simp)]
                  exact ⟨S2, (g2.trans c2).trans k2, Or.inl ⟨by simp [pEnd], rfl, q3⟩⟩
                | cons z r =>
                  rw [if_neg (by rw [q3.2.2.1, q3.2.2.2.2.1]; simp; omega)]
                  obtain ⟨S3, w1, w2⟩ := m_wrong q3
                  rcases w2 with ⟨w, -⟩ | ⟨-, w3, w4⟩
                  · exact absurd rfl w
                  · rw [w3, zbd_s, if_pos z00]
                    exact ⟨S3, ((g2.trans c2).trans k2).trans w1, Or.inr ⟨rfl, rfl, w4⟩⟩
              · exact absurd q1 (by simp)
        · rw [if_neg h58, if_neg h58]
          exact Mres.from g2 (m_wrong2 g1)
    have key2 : Mres L d 0 S (pTx (x :: t)) (zf_M_text S) := by
      unfold zf_M_text
      rw [m_here1 h', zbd_s, pTx_cons]
      by_cases a1 : x = 118
      · rw [if_pos (show x = 118 ∨ x = 112 ∨ x = 101 ∨ x = 108 from Or.inl a1), if_pos a1]; exact key
      by_cases a2 : x = 112
      · rw [if_pos (show x = 118 ∨ x = 112 ∨ x = 101 ∨ x = 108 by omega), if_neg a1, if_pos a2]; exact key
      by_cases a3 : x = 101
      · rw [if_pos (show x = 118 ∨ x = 112 ∨ x = 101 ∨ x = 108 by omega), if_neg a1, if_neg a2, if_pos a3]; exact key
      by_cases a4 : x = 108
      · rw [if_pos (show x = 118 ∨ x = 112 ∨ x = 101 ∨ x = 108 by omega), if_neg a1, if_neg a2, if_neg a3, if_pos a4]; exact key
      rw [if_neg (show ¬ (x = 118 ∨ x = 112 ∨ x = 101 ∨ x = 108) by omega), if_neg a1, if_neg a2, if_neg a3, if_neg a4]
      exact m_wrong2 h'
    rw [← hLL] at key2
    exact key2
