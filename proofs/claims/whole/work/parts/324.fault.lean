/-! ===== a row's letters; fault ===== -/
def Lof (f : Int → Int) (i : Int) : Nat → List Int
  | 0 => []
  | k + 1 => f i :: Lof f (i + 1) k
theorem Lof_len (f : Int → Int) : ∀ (k : Nat) (i : Int), (Lof f i k).length = k
  | 0, _ => rfl
  | k + 1, i => by
    rw [Lof, List.length_cons, Lof_len f k (i + 1)]
theorem Lof_sfx (f : Int → Int) : ∀ (k : Nat) (i x : Int) (t : List Int), (x :: t) <:+ Lof f i k → f (i + k - (t.length + 1)) = x
  | 0, i, x, t, h => by
    have := h.length_le
    simp [Lof] at this
  | k + 1, i, x, t, h => by
    rw [Lof, List.suffix_cons_iff] at h
    rcases h with h | h
    · injection h with h1 h2
      rw [h2, Lof_len, h1]
      congr 1
      omega
    · have := Lof_sfx f k (i + 1) x t h
      rw [← this]
      congr 1
      omega
theorem Lof_ltr (f : Int → Int) (k : Nat) : Ltr f (Lof f 0 k) := by
  intro x t h
  have := Lof_sfx f k 0 x t h
  rw [Lof_len]
  rw [← this]
  congr 1
  omega
theorem pTx_head {L : List Int} {e : List Int} (h : (pTx L).2 = some e) : L ≠ [] := by
  intro q
  rw [q] at h
  cases h
def MF (T T2 : Sg) : Prop := ∀ (g : Nat) (r k j : Int), ¬ (g = 9 ∧ r = 0 ∧ k = 0 ∧ 10 ≤ j ∧ j ≤ 14) → T2 g r k j = T g r k j
/-- what class and reference find of one text -/
theorem pf_fault {S T : Sg} {d : Int} (hd : 0 ≤ d ∧ d < 8) (hn : 0 ≤ S 2 d 0 5 ∧ S 2 d 0 5 ≤ 120) (h3 : T 9 0 3 d = S 2 d 0 5) (hl : ∀ i, 0 ≤ i → i < S 2 d 0 5 → T 10 d 0 i = S 2 d 1 i) :
    ∃ a S2 T2, zf_R_read 2 d 1 120 (S 2 d 0 5) S = some (a, S2) ∧ zf_M_faultOf d T = some (a, T2) ∧ Rfq S S2 ∧ MF T T2 ∧ (a = -2 ∨ (0 ≤ a ∧ a ≤ 120)) ∧ (a = -2 → ∃ L e, (pTx L).2 = some e ∧ (L.length : Int) = S 2 d 0 5 ∧ Ltr (S 2 d 1) L ∧ S2 3 0 4 2 = e.length ∧ Sq (S2 3 0 5) 0 e ∧ e.length ≤ 120 ∧ S2 3 0 4 0 = sbj (S 2 d 1 0)) := by
  generalize hn' : (S 2 d 0 5).toNat = n
  have hn2 : S 2 d 0 5 = (n : Int) := by omega
  have hLl : (Lof (S 2 d 1) 0 n).length = n := Lof_len _ _ _
  have hLt := Lof_ltr (S 2 d 1) n
  generalize Lof (S 2 d 1) 0 n = L at hLl hLt
  have hr := r_read (L := L) (g := 2) (d := d) (k := 1) (S := S) (by decide) (by omega) hLt
  rw [hLl] at hr
  -- the reference
  unfold zf_M_faultOf
  rw [zck_b hd]
  simp only [zlt_v]
  generalize hU : zu (zu (zu (zu T 9 0 0 10 (d + 1)) 9 0 0 11 (zu T 9 0 0 10 (d + 1) 9 0 3 d)) 9 0 0 12 0) 9 0 0 13 0 = U
  have fU : MF T U := by
    intro g r k j z
    rw [← hU]
    simp only [zu]
    rw [if_neg (by omega), if_neg (by omega), if_neg (by omega), if_neg (by omega)]
  have hM : Mst L d 0 L U := by
    refine ⟨?_, hd, ?_, by omega, ?_, ?_, List.suffix_refl _, ?_⟩
    · rw [← hU]; simp [zu]
    · rw [← hU]; simp [zu]; rw [h3, hn2, hLl]
    · rw [← hU]; simp [zu]
    · rw [← hU]; simp [zu]
    · intro x t hx
      have hl2 := sfx_len hx
      rw [fU 10 d 0 _ (by omega), hl _ (by omega) (by omega)]
      exact hLt x t hx
  clear hU
  obtain ⟨T2, m1, m2⟩ := m_pTx hM
  have fT : MF T T2 := by
    intro g r k j z
    rw [m1 g r k j (by omega)]
    exact fU g r k j z
  cases hp : (pTx L).2 with
  | none =>
    rcases m2 with ⟨q, -⟩ | ⟨-, q2, q3⟩
    · exact absurd hp q
    · obtain ⟨S2, k1, k2⟩ := hr.1 hp
      have hs : (pTx L).1.length ≤ L.length := by
        cases hL : L with
        | nil => simp [pTx]
        | cons x t =>
          rw [pTx_cons]
          split
          · cases t with
            | nil => simp [pTc]
            | cons y u =>
              rw [pTc_cons]
              split
              · have hq := sfx_pEx (sfx_pTe (sfx_pFa 128 0)) u
                unfold Sfx at hq
                cases hpe : pEx (pTe (pFa 128 0)) u with
                | mk r o =>
                  rw [hpe] at hq
                  have := hq.length_le
                  dsimp only at this
                  cases o with
                  | none => simp only [pEnd, List.length_cons]; omega
                  | some e =>
                    cases r with
                    | nil => simp [pEnd]
                    | cons z r => simp only [pEnd, List.length_cons] at this ⊢; omega
              · simp
          · simp
      refine ⟨_, S2, T2, by rw [hn2]; exact k1, ?_, k2, fT, Or.inr ?_, fun q => ?_⟩
      · rw [q2, zbd_s, if_pos z00, q3, hLl]
      · omega
      · omega
  | some e =>
    rcases m2 with ⟨-, q2, q3⟩ | ⟨q, -⟩
    · obtain ⟨S2, k1, k2, k3, k4, k5, k6⟩ := hr.2 e hp
      refine ⟨-2, S2, T2, by rw [hn2]; exact k1, ?_, k2, fT, Or.inl rfl, fun _ => ⟨L, e, hp, by rw [hn2, hLl], hLt, k3, ?_, k5, ?_⟩⟩
      · rw [q2, zbd_s, if_neg n10]
      · have := stk_sq e [] (by rw [List.append_nil]; exact k4)
        exact this.1
      · rw [k6]
        cases hL : L with
        | nil => exact absurd hL (pTx_head hp)
        | cons x t =>
          have := hLt x t (by rw [hL]; exact List.suffix_refl _)
          rw [hL, List.length_cons, show (((t.length + 1 : Nat) : Int) - (t.length + 1)) = 0 by omega] at this
          rw [this]
          rfl
    · rw [hp] at q; cases q
theorem pf_S_holdsText (d : Int) (S : Sg) : zf_S_holdsText d S = some (if S 2 d 0 0 = 3 ∧ S 2 d 0 4 = 0 then 1 else 0, S) := by
  unfold zf_S_holdsText
  by_cases h : S 2 d 0 0 = 3
  · rw [if_pos h]
    by_cases h2 : S 2 d 0 4 = 0
    · rw [if_pos h2, if_pos ⟨h, h2⟩]
    · rw [if_neg h2, if_neg (fun q => h2 q.2)]
  · rw [if_neg h, if_neg (fun q => h q.1)]
theorem pf_M_noBytes {x : Int} (hx : 0 ≤ x ∧ x < 8) (S : Sg) : zf_M_noBytes x S = some (if S 9 0 1 x = 0 then -11 else if S 9 0 1 x = 3 ∧ S 9 0 2 x = 0 then 0 else -12, S) := by
  unfold zf_M_noBytes zf_M_noBytes_33
  rw [zck_b hx]
  by_cases h0 : S 9 0 1 x = 0
  · rw [if_pos h0, if_pos h0]
  · rw [if_neg h0, if_neg h0]
    by_cases h3 : S 9 0 1 x = 3
    · rw [if_pos h3]
      by_cases h2 : S 9 0 2 x = 0
      · rw [if_pos h2, if_pos ⟨h3, h2⟩]
      · rw [if_neg h2, if_neg (fun q => h2 q.2)]
    · rw [if_neg h3, if_neg (fun q => h3 q.1)]
/-- a shelf in two memories -/
def Rs12 (S T : Sg) (d : Int) : Prop :=
  T 9 0 1 d = S 2 d 0 0 ∧ (0 ≤ S 2 d 0 0 ∧ S 2 d 0 0 ≤ 3) ∧
  (S 2 d 0 0 = 3 → T 9 0 2 d = S 2 d 0 4 ∧ T 9 0 3 d = S 2 d 0 5 ∧ (0 ≤ S 2 d 0 4 ∧ S 2 d 0 4 ≤ 2) ∧ (0 ≤ S 2 d 0 5 ∧ S 2 d 0 5 ≤ 120) ∧ ∀ i, 0 ≤ i → i < S 2 d 0 5 → T 10 d 0 i = S 2 d 1 i)
theorem Rs1.two {S T T2 : Sg} {d : Int} (h : Rs1 S d) (hT : T = S) (h1 : ∀ k, 1 ≤ k → k ≤ 3 → T2 9 0 k = T 9 0 k) (h2 : T2 10 = T 10) : Rs12 S T2 d := by
  subst hT
  refine ⟨by rw [h1 1 (by decide) (by decide)]; exact h.1, h.2.1, fun q => ?_⟩
  rw [h1 2 (by decide) (by decide), h1 3 (by decide) (by decide), h2]
  exact h.2.2.1 q
/-- fault, on either side -/
theorem pf_O_fault {S T : Sg} {d : Int} (h : 0 ≤ d → d < 8 → Rs12 S T d) :
    ∃ a S2 T2, zf_O_fault d S = some (a, S2) ∧ Rfq S S2 ∧ MF T T2 ∧ ((¬ (0 ≤ d ∧ d < 8) ∧ a = -1 ∧ S2 = S ∧ T2 = T) ∨ ((0 ≤ d ∧ d < 8) ∧ ((S 2 d 0 0 = 0 ∧ a = -11 ∧ S2 = S ∧ T2 = T) ∨ (S 2 d 0 0 ≠ 0 ∧ ¬ (S 2 d 0 0 = 3 ∧ S 2 d 0 4 = 0) ∧ a = -12 ∧ S2 = S ∧ T2 = T) ∨ ((S 2 d 0 0 = 3 ∧ S 2 d 0 4 = 0) ∧ zf_M_faultOf d T = some (a, T2) ∧ (a = -2 ∨ (0 ≤ a ∧ a ≤ 120)) ∧ (a = -2 → ∃ L e, (pTx L).2 = some e ∧ (L.length : Int) = S 2 d 0 5 ∧ Ltr (S 2 d 1) L ∧ S2 3 0 4 2 = e.length ∧ Sq (S2 3 0 5) 0 e ∧ e.length ≤ 120 ∧ S2 3 0 4 0 = sbj (S 2 d 1 0)))))) := by
  unfold zf_O_fault
  rw [pf_O_isShelf, zbd_s]
  by_cases hd : 0 ≤ d ∧ d < 8
  · rw [if_pos hd, if_neg n10, zck_b hd]
    obtain ⟨h1, h2, h3⟩ := h hd.1 hd.2
    by_cases h0 : S 2 d 0 0 = 0
    · rw [if_pos h0]
      exact ⟨-11, S, T, rfl, fun _ _ _ _ => rfl, fun _ _ _ _ _ => rfl, Or.inr ⟨hd, Or.inl ⟨h0, rfl, rfl, rfl⟩⟩⟩
    · rw [if_neg h0, pf_S_holdsText, zbd_s]
      by_cases ht : S 2 d 0 0 = 3 ∧ S 2 d 0 4 = 0
      · rw [if_pos ht, if_neg n10]
        obtain ⟨r1, r2, r3, r4, r5⟩ := h3 ht.1
        obtain ⟨a, S2, T2, k1, k2, k3, k4, k5, k6⟩ := pf_fault hd r4 r2 r5
        rw [k1, zbd_s]
        exact ⟨a, S2, T2, rfl, k3, k4, Or.inr ⟨hd, Or.inr (Or.inr ⟨ht, k2, k5, k6⟩)⟩⟩
      · rw [if_neg ht, if_pos z00]
        exact ⟨-12, S, T, rfl, fun _ _ _ _ => rfl, fun _ _ _ _ _ => rfl, Or.inr ⟨hd, Or.inr (Or.inl ⟨h0, ht, rfl, rfl, rfl⟩)⟩⟩
  · rw [if_neg hd, if_pos z00]
    exact ⟨-1, S, T, rfl, fun _ _ _ _ => rfl, fun _ _ _ _ _ => rfl, Or.inl ⟨hd, rfl, rfl, rfl⟩⟩
/-- the class's answers agree with the reference's where both find the shelf wrong -/
theorem nb_like {S T : Sg} {d : Int} (h : Rs12 S T d) : (if T 9 0 1 d = 0 then (-11 : Int) else if T 9 0 1 d = 3 ∧ T 9 0 2 d = 0 then 0 else -12) = (if S 2 d 0 0 = 0 then -11 else if S 2 d 0 0 = 3 ∧ S 2 d 0 4 = 0 then 0 else -12) := by
  rw [h.1]
  by_cases h0 : S 2 d 0 0 = 0
  · rw [if_pos h0, if_pos h0]
  · rw [if_neg h0, if_neg h0]
    by_cases h3 : S 2 d 0 0 = 3
    · rw [(h.2.2 h3).1]
    · rw [if_neg (fun q => h3 q.1), if_neg (fun q => h3 q.1)]
/-- what class calls change, what the reference's do: the other's cells stay -/
def gC (g : Nat) : Prop := g ≤ 4 ∨ g = 13 ∨ g = 14 ∨ g = 20 ∨ g = 22
theorem tw_fault {S : Sg} (d : Int) (hs : Rsh S) : ∃ (a : Int) (S1 S2 : Sg), zf_O_fault d S = some (a, S1) ∧ zf_M_fault d S1 = some (a, S2) ∧ Rfq S S1 ∧ (∀ (g : Nat) (r k j : Int), ¬ (g = 9 ∧ r = 0 ∧ k = 0 ∧ (j = 4 ∨ 10 ≤ j ∧ j ≤ 14)) → S2 g r k j = S1 g r k j) := by
  have h0 := pf_O_fault (S := S) (T := S) (d := d) (fun a b => (hs d a b).two rfl (fun _ _ _ => rfl) rfl)
  obtain ⟨a0, S1, -, k1, k2, -⟩ := h0
  have hz : Rfq S (zu S1 9 0 0 4 0) → True := fun _ => trivial
  obtain ⟨a, S1', T2, l1, l2, l3, l4⟩ := pf_O_fault (S := S) (T := zu S1 9 0 0 4 0) (d := d) (fun a b => (hs d a b).two rfl (fun k q1 q2 => by rw [zu_ne (by omega)]; exact k2 9 0 k (by omega)) (by funext r k; rw [zu_ne (by omega)]; exact k2 10 r k (by omega)))
  rw [k1] at l1
  cases l1
  have hT : ∀ (g : Nat) (r k j : Int), ¬ (g = 9 ∧ r = 0 ∧ k = 0 ∧ (j = 4 ∨ 10 ≤ j ∧ j ≤ 14)) → T2 g r k j = S1 g r k j := by
    intro g r k j q
    rw [l3 g r k j (by omega)]
    exact if_neg (by omega)
  refine ⟨a0, S1, T2, k1, ?_, k2, hT⟩
  unfold zf_M_fault
  rw [zlt_v, pf_M_isShelf, zbd_s]
  rcases l4 with ⟨q1, q2, q3, q4⟩ | ⟨hd, l4⟩
  · rw [if_neg q1, if_pos z00, q2, q4]
  · rw [if_pos hd, if_neg n10]
    have hR : Rs12 S (zu S1 9 0 0 4 0) d := (hs d hd.1 hd.2).two rfl (fun k q1 q2 => by rw [zu_ne (by omega)]; exact k2 9 0 k (by omega)) (by funext r k; rw [zu_ne (by omega)]; exact k2 10 r k (by omega))
    rw [pf_M_noBytes hd, nb_like hR]
    rcases l4 with ⟨q0, q1, q2, q3⟩ | ⟨q0, q00, q1, q2, q3⟩ | ⟨q0, q1, q2, q3⟩
    · rw [if_pos q0, zbd_s, if_neg (show ¬ ((-11 : Int) = 0) by decide), pf_M_noBytes hd, nb_like hR, if_pos q0, zbd_s, q1, q3]
    · rw [if_neg q0, if_neg q00, zbd_s, if_neg (show ¬ ((-12 : Int) = 0) by decide), pf_M_noBytes hd, nb_like hR, if_neg q0, if_neg q00, zbd_s, q1, q3]
    · rw [if_neg (show ¬ S 2 d 0 0 = 0 by omega), if_pos q0, zbd_s, if_pos z00, q1, zbd_s]
