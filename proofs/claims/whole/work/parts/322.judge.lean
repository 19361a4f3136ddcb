/-! ===== the judge runs the steps of a law ===== -/
def Sq (f : Int → Int) (i : Int) : List Int → Prop
  | [] => True
  | x :: t => f i = x ∧ Sq f (i + 1) t
theorem stk_sq {f : Int → Int} : ∀ (e l : List Int), Stk f (e.reverse ++ l) → Sq f l.length e ∧ Stk f l
  | [], l, h => ⟨trivial, h⟩
  | x :: e, l, h => by
    rw [List.reverse_cons, List.append_assoc] at h
    obtain ⟨h1, h2, h3⟩ := stk_sq e (x :: l) h
    refine ⟨⟨h2, ?_⟩, h3⟩
    rw [List.length_cons] at h1
    exact h1
theorem Sq.ext {f g : Int → Int} : ∀ {e : List Int} {i : Int}, Sq f i e → (∀ j : Int, i ≤ j → j < i + e.length → g j = f j) → Sq g i e
  | [], _, _, _ => trivial
  | x :: e, i, h, q => by
    refine ⟨?_, Sq.ext h.2 (fun j a b => q j (by omega) (by simp; omega))⟩
    rw [q i (by omega) (by simp; omega)]
    exact h.1
def JF (S S2 : Sg) : Prop := ∀ (g : Nat) (r k : Int), ¬ (g = 3 ∧ r = 0 ∧ 7 ≤ k ∧ k ≤ 9) → S2 g r k = S g r k
theorem JF.refl (S : Sg) : JF S S := fun _ _ _ _ => rfl
theorem JF.trans {S S2 S3 : Sg} (h : JF S S2) (h2 : JF S2 S3) : JF S S3 := fun g r k q => (h2 g r k q).trans (h g r k q)
theorem JF.put {S : Sg} {k j v : Int} (h : 7 ≤ k ∧ k ≤ 9) : JF S (zu S 3 0 k j v) := fun g r k' q => zu_ne (by omega)
/-- the stack -/
def Jm (k : List Int) (S : Sg) : Prop := S 3 0 7 2 = k.length ∧ Stk (S 3 0 9) k
def JG (S S2 : Sg) : Prop := JF S S2 ∧ S2 3 0 8 = S 3 0 8
theorem JG.trans {S S2 S3 : Sg} (h : JG S S2) (h2 : JG S2 S3) : JG S S3 := ⟨h.1.trans h2.1, h2.2.trans h.2⟩
theorem j_pop {k : List Int} {S : Sg} (h : Jm k S) (hk : k.length ≤ 120) : ∃ S2, zf_J_pop S = some (k.headD 0, S2) ∧ Jm k.tail S2 ∧ JG S S2 := by
  obtain ⟨h1, h2⟩ := h
  unfold zf_J_pop
  cases k with
  | nil =>
    rw [if_neg (by rw [h1]; simp)]
    exact ⟨S, rfl, ⟨h1, h2⟩, JF.refl S, rfl⟩
  | cons x t =>
    simp only [List.length_cons] at h1 hk
    rw [if_pos (by rw [h1]; omega), h1, zw_in (by omega) (by omega), show (((t.length + 1 : Nat) : Int) - 1) = t.length by omega, zlt_v, zu_at, zck_b (by omega)]
    refine ⟨_, ?_, ⟨zu_at .., ?_⟩, JF.put (by decide), zu_ne (by decide)⟩
    · rw [zu_ne (by decide), h2.1]; rfl
    · rw [zu_ne (by decide)]; exact h2.2
theorem j_push {k : List Int} {S : Sg} (x : Int) (h : Jm k S) (hk : k.length < 120) : ∃ S2, zf_J_push x S = some (0, S2) ∧ Jm (x :: k) S2 ∧ JG S S2 := by
  obtain ⟨h1, h2⟩ := h
  unfold zf_J_push
  rw [if_neg (by rw [h1]; omega), zck_b (by rw [h1]; omega), zlt_v, zlt_v, show zu S 3 0 9 (S 3 0 7 2) x 3 0 7 2 = S 3 0 7 2 by simp [zu], h1, zw_in (by omega) (by omega)]
  refine ⟨_, rfl, ⟨?_, ?_⟩, (JF.put (by decide)).trans (JF.put (by decide)), ?_⟩
  · rw [zu_at]; simp
  · rw [zu_ne (by decide)]; exact h2.push
  · rw [zu_ne (by decide), zu_ne (by decide)]
theorem pf_J_joined (o x y : Int) (S : Sg) : zf_J_joined o x y S = some (jnd o x y, S) := by
  unfold zf_J_joined jnd
  repeat' split
  all_goals rfl
theorem st1_len (f : Int → Int) (x : Int) (k : List Int) : (st1 f x k).length ≤ k.length + 1 := by
  unfold st1
  repeat' split
  all_goals simp only [List.length_cons, List.length_tail]
  all_goals omega
theorem j_loop {g : Nat} {l q : Int} {F : Int → Int} (hg : g ≠ 3) : ∀ (e : List Int) (i : Int) (k : List Int) (n : Nat) (S : Sg), e.length < n → 0 ≤ i → i + e.length ≤ 120 → Sq (S g l q) i e → Jm k S → k.length + e.length ≤ 120 → (∀ j, 0 ≤ j → j < 7 → S 3 0 8 j = F j) →
    ∃ S2, zf_J_runs_7 g l q 120 n (i + e.length) i S = some (if (ev F e k).headD 0 = 0 then 0 else 1, S2) ∧ JF S S2
  | _, _, _, 0, _, hn, _, _, _, _, _, _ => absurd hn (Nat.not_lt_zero _)
  | [], i, k, n + 1, S, hn, h0, hi, hq, hm, hk, hF => by
    rw [zf_J_runs_7, if_pos (by simp)]
    unfold zf_J_runs_107
    obtain ⟨S2, k1, k2, k3⟩ := j_pop hm (by simp at hk; omega)
    rw [k1, zbd_s]
    refine ⟨S2, ?_, k3.1⟩
    show (if k.headD 0 = 0 then some ((0 : Int), S2) else some (1, S2)) = some (if k.headD 0 = 0 then 0 else 1, S2)
    split <;> rfl
  | x :: e, i, k, n + 1, S, hn, h0, hi, hq, hm, hk, hF => by
    simp only [List.length_cons] at hn hi hk
    have hx : S g l q i = x := hq.1
    rw [zf_J_runs_7, if_neg (by simp; omega), if_neg (by simp; omega), zck_b (by simp; omega), hx, zlt_v]
    have go : ∀ (S2 : Sg) (k2 : List Int), Jm k2 S2 → JG S S2 → k2 = st1 F x k → ∃ S3, zf_J_runs_101 g l q 120 (zf_J_runs_7 g l q 120 n) (i + ((x :: e).length : Nat)) i S2 = some (if (ev F (x :: e) k).headD 0 = 0 then 0 else 1, S3) ∧ JF S S3 := by
      intro S2 k2 hm2 hg2 hk2
      unfold zf_J_runs_101
      have hl := st1_len F x k
      rw [← hk2] at hl
      rw [zlt_v, zw_in (by omega) (by omega), List.length_cons, show i + ((e.length + 1 : Nat) : Int) = (i + 1) + e.length by omega]
      have hq2 : Sq (S2 g l q) (i + 1) e := by
        rw [hg2.1 g l q (by omega)]
        exact hq.2
      obtain ⟨S3, m1, m2⟩ := j_loop (F := F) hg e (i + 1) k2 n S2 (by omega) (by omega) (by omega) hq2 hm2 (by omega) (fun j a b => by rw [hg2.2]; exact hF j a b)
      refine ⟨S3, ?_, hg2.1.trans m2⟩
      rw [m1, hk2]
      rfl
    by_cases h1 : x < 0
    · rw [if_pos h1]
      by_cases h2 : x < -7
      · rw [if_pos h2]
        obtain ⟨S2, a1, a2, a3⟩ := j_pop hm (by omega)
        by_cases h3 : x = -15
        · rw [if_pos h3, a1, zbd_s]
          obtain ⟨S3, b1, b2, b3⟩ := j_push (zw (1 - k.headD 0)) a2 (by simp only [List.length_tail]; omega)
          rw [b1, zbd_s]
          exact go S3 _ b2 (a3.trans b3) (by unfold st1; rw [if_pos h1, if_pos h2, if_pos h3])
        · rw [if_neg h3, a1, zbd_s]
          obtain ⟨S3, b1, b2, b3⟩ := j_pop a2 (by simp only [List.length_tail]; omega)
          rw [b1, zbd_s, pf_J_joined, zbd_s]
          obtain ⟨S4, c1, c2, c3⟩ := j_push (jnd x (k.tail.headD 0) (k.headD 0)) b2 (by simp only [List.length_tail]; omega)
          rw [c1, zbd_s]
          exact go S4 _ c2 ((a3.trans b3).trans c3) (by unfold st1; rw [if_pos h1, if_pos h2, if_neg h3])
      · rw [if_neg h2, zw_in (by omega) (by omega), zck_b (by omega), hF _ (by omega) (by omega)]
        obtain ⟨S2, b1, b2, b3⟩ := j_push (F (-1 - x)) hm (by omega)
        rw [b1, zbd_s]
        exact go S2 _ b2 b3 (by unfold st1; rw [if_pos h1, if_neg h2])
    · rw [if_neg h1]
      obtain ⟨S2, b1, b2, b3⟩ := j_push x hm (by omega)
      rw [b1, zbd_s]
      exact go S2 _ b2 b3 (by unfold st1; rw [if_neg h1])
theorem j_runs {g : Nat} {l q : Int} {F : Int → Int} {e : List Int} {v : Int} {S : Sg} (hg : g ≠ 3) (he : e.length ≤ 120) (hq : Sq (S g l q) 0 e) (hF : ∀ j, 0 ≤ j → j < 7 → S 3 0 8 j = F j) (hv : Ev F e v) : ∃ S2, zf_J_runs g l q 120 e.length S = some (if v = 0 then 0 else 1, S2) ∧ JF S S2 := by
  unfold zf_J_runs
  rw [zlt_v]
  have hq2 : Sq (zu S 3 0 7 2 0 g l q) 0 e := by
    rw [zu_ne (by omega)]
    exact hq
  obtain ⟨S2, k1, k2⟩ := j_loop (F := F) hg e 0 [] 4096 (zu S 3 0 7 2 0) (by omega) (by decide) (by omega) hq2 ⟨zu_at .., trivial⟩ (by simp; omega) (fun j a b => by rw [zu_ne (by decide)]; exact hF j a b)
  rw [hv []] at k1
  rw [show (0 : Int) + (e.length : Int) = e.length by omega] at k1
  exact ⟨S2, k1, (JF.put (by decide)).trans k2⟩
/-! ===== what is looked at of one ===== -/
def zbc (x : Int) : Int := match zf_Ji_bitCount x (fun _ _ _ _ => 0) with
  | some q => q.1
  | none => 0
theorem pf_Ji_bitCount (x : Int) (S : Sg) : zf_Ji_bitCount x S = some (zbc x, S) := rfl
def Fld (S : Sg) (r p : Int) (j : Int) : Int := if j = 0 then ageS (S 0 r 0 0) (S 0 r 7 p) else if j = 1 then knd S r p (S 0 r 0 0) else if j = 2 then sF (hdC S r (S 0 r 8 p)) 0 (S 0 r 6 0).toNat else if j = 3 then S 0 r 2 (S 0 r 8 p) else if j = 4 then zbc (S 0 r 10 p) else if j = 5 then zrem (S 0 r 0 0) 52 else S 0 r 13 p
theorem hdC_congr {S S2 : Sg} {r h : Int} (h1 : S2 0 r 11 = S 0 r 11) (h2 : S2 0 r 8 = S 0 r 8) : hdC S2 r h = hdC S r h := by
  unfold hdC
  rw [h1, h2]
theorem j_look {S : Sg} {r p : Int} (hw : 0 ≤ S 0 r 0 0 ∧ S 0 r 0 0 ≤ 400) (hn : 0 ≤ S 0 r 6 0 ∧ S 0 r 6 0 ≤ 40) (hp : 0 ≤ p ∧ p < 40) (hb : -5000 ≤ S 0 r 7 p ∧ S 0 r 7 p ≤ 400) (hh : 0 ≤ S 0 r 8 p ∧ S 0 r 8 p < 12) : ∃ S2, zf_J_look r p S = some (0, S2) ∧ JF S S2 ∧ ∀ j, 0 ≤ j → j < 7 → S2 3 0 8 j = Fld S r p j := by
  unfold zf_J_look
  rw [zck_b hp, zlt_v, pf_P_age hp hb hw, zbd_s, zlt_v]
  have n0 : ∀ {U : Sg} {i v : Int} {k : Int}, zu U 3 0 8 i v 0 r k = U 0 r k := fun {U i v k} => zu_ne (by omega)
  rw [show zu S 3 0 8 0 (ageS (S 0 r 0 0) (S 0 r 7 p)) 0 r 0 0 = S 0 r 0 0 by rw [n0], pf_P_kind hp (by rw [n0]; exact hb) hw, zbd_s, zlt_v]
  simp only [n0]
  rw [pf_P_headsOf (by simp only [n0]; exact hn), zbd_s, zlt_v, zck_b hh]
  simp only [n0, zlt_v, pf_Ji_bitCount, zbd_s]
  rw [hdC_congr (S := S) (by simp only [n0]) (by simp only [n0])]
  refine ⟨_, rfl, ?_, ?_⟩
  · intro g r' k q
    rw [zu_ne (by omega), zu_ne (by omega), zu_ne (by omega), zu_ne (by omega), zu_ne (by omega), zu_ne (by omega), zu_ne (by omega)]
  · intro j a b
    have hj : j = 0 ∨ j = 1 ∨ j = 2 ∨ j = 3 ∨ j = 4 ∨ j = 5 ∨ j = 6 := by omega
    rcases hj with e | e | e | e | e | e | e <;> subst e <;> simp [zu, Fld, knd]
theorem hd_like2 {S T : Sg} {r w h : Int} (hp : Rpp2 S T r w) : sF (hdM T w h) 0 (T 5 w 0 1).toNat = sF (hdC S r h) 0 (S 0 r 6 0).toNat := by
  rw [hp.1]
  refine sF_eq _ _ (fun j a b => ?_)
  have q := hp.2.2 j a (by omega)
  unfold Rp12 at q
  simp [hdM, hdC, q]
theorem fldS_cases {c : Int} (h : fldS c < 0) : c = 97 ∨ c = 99 ∨ c = 100 ∨ c = 104 ∨ c = 107 ∨ c = 115 ∨ c = 119 := by
  unfold fldS at h
  repeat' split at h
  all_goals first | omega | exact absurd h (by decide)
/-- the reference's fields are the class's -/
theorem w_field {S T U : Sg} {r w p : Int} (hR : Ri S T r w) (hp : 0 ≤ p ∧ p < S 0 r 6 0) (hU : ∀ (g : Nat) (r' k j : Int), ¬ (g = 5 ∧ r' = w ∧ (k = 35 ∨ k = 0 ∧ 47 ≤ j ∧ j ≤ 49)) → U g r' k j = T g r' k j) (h49 : U 5 w 0 49 = p) {c : Int} (hc : fldS c < 0) : zf_W_field w c U = some (Fld S r p (-1 - fldS c), U) := by
  obtain ⟨hsc, hho, hpp, -⟩ := hR
  have hwk := hsc.1
  have hwr := hsc.2.2.2.2.2.2.2.1
  have hn := hpp.2.1
  have q := hpp.2.2 p hp.1 hp.2
  unfold Rp12 at q
  have hp4 : 0 ≤ p ∧ p < 40 := by omega
  have hq := hho (S 0 r 8 p) (by omega) (by omega)
  unfold Rh12 at hq
  have eU : ∀ k j, (k ≠ 35 ∧ (k ≠ 0 ∨ j < 47)) → U 5 w k j = T 5 w k j := fun k j z => hU 5 w k j (by omega)
  have eR : ∀ k, k ≠ 35 ∧ k ≠ 0 → U 5 w k = T 5 w k := fun k z => by funext j; exact eU k j (by omega)
  have g1 : -5000 ≤ U 5 w 1 p ∧ U 5 w 1 p ≤ 400 := by rw [eU 1 p (by omega)]; omega
  have g0 : 0 ≤ U 5 w 0 0 ∧ U 5 w 0 0 ≤ 400 := by rw [eU 0 0 (by omega)]; omega
  have gn : 0 ≤ U 5 w 0 1 ∧ U 5 w 0 1 ≤ 40 := by rw [eU 0 1 (by omega), hpp.1]; exact hn
  unfold zf_W_field
  simp only [h49]
  rcases fldS_cases hc with e | e | e | e | e | e | e
  · subst e
    rw [if_pos rfl, pf_W_age hp4 g1 g0, zbd_s, eU 0 0 (by omega), eU 1 p (by omega), hwk, q.1]
    rfl
  · subst e
    rw [if_neg (by decide), if_pos rfl, zck_b hp4, eU 2 p (by omega), q.2.1, zck_b (by omega), eU 10 _ (by omega), hq.1]
    rfl
  · subst e
    rw [if_neg (by decide), if_neg (by decide), if_neg (by decide), if_neg (by decide), if_neg (by decide), if_neg (by decide), zck_b hp4, eU 7 p (by omega), q.2.2.2.2.2.2.1]
    rfl
  · subst e
    rw [if_neg (by decide), if_neg (by decide), if_pos rfl, zck_b hp4, eU 2 p (by omega), q.2.1, pf_W_heads gn, zbd_s]
    have e1 : hdM U w (S 0 r 8 p) = hdM T w (S 0 r 8 p) := by
      unfold hdM
      rw [eR 5 (by omega), eR 2 (by omega)]
    rw [e1, eU 0 1 (by omega), hd_like2 hpp]
    rfl
  · subst e
    rw [if_neg (by decide), if_neg (by decide), if_neg (by decide), if_pos rfl, pf_W_kind hp4 g1 g0, zbd_s, eU 0 0 (by omega), eU 1 p (by omega), eU 4 p (by omega), eU 5 p (by omega), eU 6 p (by omega), hwk, q.1, q.2.2.2.1, q.2.2.2.2.1, q.2.2.2.2.2.1]
    rfl
  · subst e
    rw [if_neg (by decide), if_neg (by decide), if_neg (by decide), if_neg (by decide), if_pos rfl, zck_b hp4, pf_Ji_bitCount, zbd_s, eU 4 p (by omega), q.2.2.2.1]
    rfl
  · subst e
    rw [if_neg (by decide), if_neg (by decide), if_neg (by decide), if_neg (by decide), if_neg (by decide), if_pos rfl, eU 0 0 (by omega), hwk]
    rfl
/-- the code of a law says what its text says -/
def Co (S T : Sg) (r w l : Int) : Prop := ∃ L e : List Int, (pTx L).2 = some e ∧ (L.length : Int) = T 5 w 14 l ∧ L.length ≤ 120 ∧ Ltr (T 6 w l) L ∧ S 0 r 25 l = e.length ∧ Sq (S 1 l 0) 0 e ∧ e.length ≤ 120
def Rco (S T : Sg) (r w : Int) : Prop := ∀ l, 0 ≤ l → l < S 0 r 16 0 → Co S T r w l
def Rw (S T : Sg) (r w : Int) : Prop := Ri S T r w ∧ Rla S T r w ∧ Rco S T r w
def WF (w : Int) (T T2 : Sg) : Prop := ∀ (g : Nat) (r' k j : Int), ¬ (g = 5 ∧ r' = w ∧ (k = 35 ∨ k = 0 ∧ 47 ≤ j ∧ j ≤ 49)) → T2 g r' k j = T g r' k j
theorem WF.refl (w : Int) (T : Sg) : WF w T T := fun _ _ _ _ _ => rfl
theorem WF.trans {w : Int} {S S2 S3 : Sg} (h : WF w S S2) (h2 : WF w S2 S3) : WF w S S3 := fun g r k j q => (h2 g r k j q).trans (h g r k j q)
theorem Ltr.ext {f g : Int → Int} {L : List Int} (h : Ltr f L) (q : ∀ j : Int, 0 ≤ j → j < L.length → g j = f j) : Ltr g L := by
  intro x t hx
  have := sfx_len hx
  rw [q _ (by omega) (by omega)]
  exact h x t hx
theorem Rco.like {S T S2 T2 : Sg} {r w a b : Int} (hL : Rla S T r w) (h : Rco S T r w) (h1 : ∀ i, 0 ≤ i → i < S 0 r 16 0 → S2 0 a 25 i = S 0 r 25 i) (h0 : S2 0 a 16 0 = S 0 r 16 0) (hw : Wk T T2 b w) (hc : ∀ l, 0 ≤ l → l < S 0 r 16 0 → ∀ i, 0 ≤ i → i < 120 → S2 1 l 0 i = S 1 l 0 i) : Rco S2 T2 a b := by
  intro l a1 a2
  rw [h0] at a2
  have h12 := hL.2.1
  obtain ⟨L, e, c1, c2, c3, c4, c5, c6, c7⟩ := h l a1 a2
  refine ⟨L, e, c1, ?_, c3, ?_, ?_, ?_, c7⟩
  · rw [c2]
    exact (hw.2.2.2.1 14 l (by decide) (by decide) a1 (by omega)).symm
  · refine c4.ext (fun j z1 z2 => ?_)
    exact hw.2.2.2.2.2.2.2.2.2.2.1 l j a1 (by omega) z1 (by omega)
  · rw [h1 l a1 a2]; exact c5
  · refine c6.ext (fun j z1 z2 => hc l a1 a2 j z1 (by omega))
theorem WF.wk {w : Int} {T T2 : Sg} (h : WF w T T2) : Wk T T2 w w := by
  refine Wk.eq ?_ ?_ ?_ ?_ ?_
  · intro i hi; exact h 5 w 0 i (by omega)
  · intro k h1 h2; funext j; exact h 5 w k j (by omega)
  · funext r k j; exact h 6 r k j (by omega)
  · funext r k j; exact h 7 r k j (by omega)
  · funext r k j; exact h 8 r k j (by omega)
theorem JF.g {S S2 : Sg} (h : JF S S2) {g : Nat} (hg : g ≠ 3) : S2 g = S g := by
  funext r k
  exact h g r k (by omega)
theorem Rw.keep {S T S2 T2 : Sg} {r w : Int} (h : Rw S T r w) (hj : JF S S2) (hw : WF w T T2) : Rw S2 T2 r w := by
  have hb : Bk S S2 r r := Bk.eq (hj.g (by decide)) (hj.g (by decide)) (hj.g (by decide))
  refine ⟨h.1.like hb hw.wk, h.2.1.like hb hw.wk, Rco.like h.2.1 h.2.2 (fun i _ _ => by rw [hj.g (by decide)]) (by rw [hj.g (by decide)]) hw.wk (fun l _ _ i _ _ => by rw [hj.g (by decide)])⟩
/-- whether a law holds for one: both sides alike -/
theorem pf_may {S T : Sg} {r w p : Int} (s : Int) (h : Rw S T r w) (hp : 0 ≤ p ∧ p < S 0 r 6 0) : ∃ v S2 T2, zf_J_allows r s p S = some (v, S2) ∧ zf_W_may w p s T = some (v, T2) ∧ b2 v ∧ JF S S2 ∧ WF w T T2 := by
  obtain ⟨hR, hL, hC⟩ := h
  obtain ⟨hsc, hho, hpp, -⟩ := id hR
  have hwk := hsc.1
  have hwr := hsc.2.2.2.2.2.2.2.1
  have hn := hpp.2.1
  have q := hpp.2.2 p hp.1 hp.2
  unfold Rp12 at q
  have hp4 : 0 ≤ p ∧ p < 40 := by omega
  obtain ⟨v, f1, f2, f3, f4⟩ := pf_force hL s (S 0 r 0 0)
  unfold zf_J_allows zf_W_may
  rw [f1, zbd_s, hwk, f2, zbd_s]
  by_cases h0 : 0 ≤ v
  · rw [if_pos h0, show pv v = v by unfold pv; rw [if_neg (by omega)], if_neg (by omega)]
    have hl12 := hL.2.1
    obtain ⟨L, e, c1, c2, c3, c4, c5, c6, c7⟩ := hC v h0 f4
    obtain ⟨S2, k1, k2, k3⟩ := j_look (S := S) (r := r) (p := p) hwr hn hp4 (by omega) (by omega)
    rw [k1, zbd_s, zck_b (by omega)]
    -- the reference
    unfold zf_W_holds
    rw [zck_b (by omega), ← c2, zck_b (by omega)]
    simp only [zlt_v]
    have e14 : zcp T 6 w v 0 5 w 35 0 L.length 5 w 14 v = L.length := by
      rw [zcp_nr (by omega)]; exact c2.symm
    rw [e14, zck_b (by omega)]
    generalize hU : zu (zu (zu (zu (zcp T 6 w v 0 5 w 35 0 L.length) 5 w 35 L.length 0) 5 w 0 47 1) 5 w 0 48 2) 5 w 0 49 p = U
    have fU : WF w T U := by
      intro g r' k j z
      rw [← hU]
      simp only [zu, zcp]
      rw [if_neg (by omega), if_neg (by omega), if_neg (by omega), if_neg (by omega), if_neg (by omega)]
    have u35 : ∀ j : Int, 0 ≤ j → j < L.length → U 5 w 35 j = T 6 w v j := by
      intro j a b
      rw [← hU]
      simp only [zu, zcp]
      rw [if_neg (by omega), if_neg (by omega), if_neg (by omega), if_neg (by omega)]
      rw [if_pos ⟨trivial, trivial, trivial, a, by omega⟩]
      congr 1
      omega
    have un : U 5 w 35 L.length = 0 := by rw [← hU]; simp [zu]
    have u47 : U 5 w 0 47 = 1 := by rw [← hU]; simp [zu]
    have u48 : U 5 w 0 48 = 2 := by rw [← hU]; simp [zu]
    have u49 : U 5 w 0 49 = p := by rw [← hU]; simp [zu]
    clear hU
    have he : WE L w (Fld S r p) U := by
      refine ⟨c3, c4.ext u35, un, u47, ?_⟩
      intro V c hV hc
      refine w_field hR hp (fun g r' k j z => ?_) ?_ hc
      · rw [hV g r' k j (by omega)]; exact fU g r' k j z
      · rw [hV 5 w 0 49 (by omega)]; exact u49
    obtain ⟨T2, u, m1, m2, m3, m4⟩ := w_text he c1 (T := U) (fun _ _ _ _ _ => rfl) u48
    rw [m1, zbd_s, zck_b m4, zbd_s, zck_b m4]
    have c5' : S2 0 r 25 v = e.length := by rw [k2 0 r 25 (by omega)]; exact c5
    rw [c5']
    obtain ⟨S3, n1, n2⟩ := j_runs (g := 1) (l := v) (q := 0) (F := Fld S r p) (S := S2) (by decide) c7 (by rw [k2 1 v 0 (by omega)]; exact c6) k3 m3
    rw [n1, zbd_s]
    have eu : (if u = 0 then (0 : Int) else 1) = u := by
      rcases m4 with z | z <;> subst z <;> rfl
    rw [eu, zck_b m4]
    refine ⟨u, S3, T2, rfl, rfl, m4, k2.trans n2, fun g r' k j z => ?_⟩
    rw [m2 g r' k j (by omega)]
    exact fU g r' k j z
  · rw [if_neg h0, show pv v = -2 by unfold pv; rw [if_pos (by omega)], if_pos rfl]
    unfold zf_J_allowsWithoutLaw
    by_cases hs : s = 0
    · rw [if_pos hs, if_pos hs, pf_P_age hp4 (by omega) hwr, zbd_s, pf_W_age hp4 (by rw [q.1]; omega) (by rw [hwk]; exact hwr), zbd_s, hwk, q.1, ite_some2, ite_some2]
      have hb := b2_ite (ageS (S 0 r 0 0) (S 0 r 7 p) < 18)
      rw [zbd_s, zck_b hb]
      exact ⟨_, S, T, rfl, rfl, hb, JF.refl S, WF.refl w T⟩
    · rw [if_neg hs, if_neg hs, ite_some2]
      have hb := b2_ite (s = 2)
      rw [zbd_s, zck_b hb, ite_some2]
      exact ⟨_, S, T, rfl, rfl, hb, JF.refl S, WF.refl w T⟩
theorem kind5 {st en b sk wk : Int} (h : st = 0) : (kindS st en b sk wk = 5) ↔ 0 ≤ en := by
  unfold kindS
  rw [if_neg (by omega), if_neg (by omega)]
  by_cases z : en < 0
  · rw [if_pos z]
    constructor
    · intro q
      repeat' split at q
      all_goals omega
    · intro q; omega
  · rw [if_neg z]
    simp
    omega
theorem pl_voters {r w N : Int} (hN : 0 ≤ N ∧ N ≤ 40) : ∀ (c n n2 : Nat) (m i : Int) (S T : Sg), 0 ≤ i → i + c = N → S 0 r 6 0 = N → c < n → c < n2 → 0 ≤ m → m ≤ i → Rw S T r w → ∃ v S2 T2, zf_J_countVoters_4 r n m i S = some (v, S2) ∧ zf_W_votersNow_4 w n2 m i T = some (v, T2) ∧ (0 ≤ v ∧ v ≤ N) ∧ JF S S2 ∧ WF w T T2
  | 0, n + 1, n2 + 1, m, i, S, T, hi, hc, hs, _, _, hm, hm2, h => by
    have hw1 : T 5 w 0 1 = N := by rw [h.1.2.2.1.1]; exact hs
    rw [zf_J_countVoters_4, if_pos (by omega), zf_W_votersNow_4, if_pos (by omega)]
    exact ⟨m, S, T, rfl, rfl, by omega, JF.refl S, WF.refl w T⟩
  | c + 1, n + 1, n2 + 1, m, i, S, T, hi, hc, hs, h1, h2, hm, hm2, h => by
    have hpp := h.1.2.2.1
    have hw1 : T 5 w 0 1 = N := by rw [hpp.1]; exact hs
    have hsc := h.1.1
    have q := hpp.2.2 i hi (by omega)
    unfold Rp12 at q
    have hi4 : 0 ≤ i ∧ i < 40 := by omega
    rw [zf_J_countVoters_4, if_neg (by omega), zck_b hi4, zf_W_votersNow_4, if_neg (show ¬ T 5 w 0 1 ≤ i by omega)]
    have hHere : zf_W_here w i T = some (if S 0 r 11 i = 0 then 1 else 0, T) := by rw [pf_W_here hi4, q.2.2.2.2.1]
    unfold zf_J_countVoters_52 zf_W_votersNow_43 zf_W_votersNow_44
    simp only [zlt_v]
    rw [zw_in (x := i + 1) (by omega) (by omega), zw_in (x := m + 1) (by omega) (by omega), zw_in (x := m + 0) (by omega) (by omega), show m + 0 = m by omega]
    by_cases hst : S 0 r 11 i = 0
    · rw [if_pos hst] at hHere ⊢
      rw [hHere, zbd_s, if_neg n10, pf_W_kind hi4 (by rw [q.1]; have := hsc.2.2.2.2.2.2.2.1; omega) (by rw [hsc.1]; exact hsc.2.2.2.2.2.2.2.1), zbd_s, q.2.2.2.2.1, q.2.2.2.2.2.1]
      by_cases hen : 0 ≤ S 0 r 12 i
      · rw [if_pos hen, if_pos ((kind5 hst).mpr hen)]
        exact pl_voters hN c n n2 m (i + 1) S T (by omega) (by omega) hs (by omega) (by omega) hm (by omega) h
      · rw [if_neg hen, if_neg (fun z => hen ((kind5 hst).mp z))]
        obtain ⟨v, S2, T2, k1, k2, k3, k4, k5⟩ := pf_may 0 h (p := i) (by omega)
        rw [k1, zbd_s, k2, zbd_s]
        have h3 := h.keep k4 k5
        have hs2 : S2 0 r 6 0 = N := by rw [k4 0 r 6 (by omega)]; exact hs
        by_cases hv : v = 0
        · rw [if_pos hv, if_pos hv]
          obtain ⟨v2, S3, T3, l1, l2, l3, l4, l5⟩ := pl_voters hN c n n2 m (i + 1) S2 T2 (by omega) (by omega) hs2 (by omega) (by omega) hm (by omega) h3
          exact ⟨v2, S3, T3, l1, l2, l3, k4.trans l4, k5.trans l5⟩
        · rw [if_neg hv, if_neg hv]
          obtain ⟨v2, S3, T3, l1, l2, l3, l4, l5⟩ := pl_voters hN c n n2 (m + 1) (i + 1) S2 T2 (by omega) (by omega) hs2 (by omega) (by omega) (by omega) (by omega) h3
          exact ⟨v2, S3, T3, l1, l2, l3, k4.trans l4, k5.trans l5⟩
    · rw [if_neg hst] at hHere ⊢
      rw [hHere, zbd_s, if_pos z00]
      exact pl_voters hN c n n2 m (i + 1) S T (by omega) (by omega) hs (by omega) (by omega) hm (by omega) h
theorem pf_voters {S T : Sg} {r w : Int} (h : Rw S T r w) : ∃ v S2 T2, zf_J_countVoters r S = some (v, S2) ∧ zf_W_votersNow w T = some (v, T2) ∧ (0 ≤ v ∧ v ≤ S 0 r 6 0) ∧ JF S S2 ∧ WF w T T2 := by
  have hn := h.1.2.2.1.2.1
  exact pl_voters hn (S 0 r 6 0).toNat 4096 4096 0 0 S T (by decide) (by omega) rfl (by omega) (by omega) (by decide) (by decide) h
