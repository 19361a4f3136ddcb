/-! ===== a world becomes like another ===== -/
/-- so far the rows L (group, row, first place, how many) of the world a are as the world b's were; nothing else has changed -/
def Lk (S U : Sg) (a b : Int) (L : List (Nat × Int × Int × Int)) : Prop := (∀ (g : Nat) (r k : Int), ¬ (r = a ∧ (g = 5 ∨ g = 6 ∨ g = 7 ∨ g = 8)) → U g r k = S g r k) ∧ ∀ e ∈ L, ∀ i, e.2.2.1 ≤ i → i < e.2.2.1 + e.2.2.2 → U e.1 a e.2.1 i = S e.1 b e.2.1 i
theorem Lk.copy {S U : Sg} {a b : Int} {L : List (Nat × Int × Int × Int)} (hab : a ≠ b) (h : Lk S U a b L) (g : Nat) (k : Int) (n : Nat) (hg : g = 5 ∨ g = 6 ∨ g = 7 ∨ g = 8) : Lk S (zcp U g b k 0 g a k 0 n) a b ((g, k, 0, (n : Int)) :: L) := by
  refine ⟨fun g' r k' hh => by rw [zcp_nr (by omega)]; exact h.1 g' r k' hh, ?_⟩
  have q : ∀ i : Int, 0 ≤ i → i < n → zcp U g b k 0 g a k 0 n g a k i = S g b k i := by
    intro i h1 h2
    rw [zcp_row]
    simp only [if_pos (show 0 ≤ i ∧ i < 0 + (n : Int) by omega)]
    rw [h.1 g b k (by omega), show 0 + (i - 0) = i by omega]
  intro e he i h1 h2
  rcases List.mem_cons.mp he with rfl | he
  · exact q i h1 (by dsimp only at h2; omega)
  · by_cases z : e.1 = g ∧ e.2.1 = k
    · rw [z.1, z.2, zcp_row]
      by_cases y : 0 ≤ i ∧ i < 0 + (n : Int)
      · have := q i y.1 (by omega)
        rw [zcp_row] at this
        exact this
      · simp only [if_neg y]
        have := h.2 e he i h1 h2
        rw [z.1, z.2] at this
        exact this
    · rw [zcp_nr (fun y => z ⟨y.1, y.2.2⟩)]
      exact h.2 e he i h1 h2
theorem Lk.put {S U : Sg} {a b : Int} {L : List (Nat × Int × Int × Int)} (hab : a ≠ b) (h : Lk S U a b L) (j : Int) : Lk S (zu U 5 a 0 j (U 5 b 0 j)) a b ((5, 0, j, 1) :: L) := by
  refine ⟨fun g' r k' hh => by rw [zu_ne (by omega)]; exact h.1 g' r k' hh, ?_⟩
  intro e he i h1 h2
  by_cases z : e.1 = 5 ∧ e.2.1 = 0 ∧ i = j
  · rw [z.1, z.2.1, z.2.2, zu_at, h.1 5 b 0 (by omega)]
  · have y : zu U 5 a 0 j (U 5 b 0 j) e.1 a e.2.1 i = U e.1 a e.2.1 i := if_neg (fun q => z ⟨q.1, q.2.2.1, q.2.2.2⟩)
    rw [y]
    rcases List.mem_cons.mp he with rfl | he
    · dsimp only at h1 h2
      exact absurd ⟨rfl, rfl, by omega⟩ z
    · exact h.2 e he i h1 h2
theorem pf_W_copy {g : Nat} {r k : Int} {n : Nat} {g2 : Nat} {r2 k2 : Int} {n2 : Nat} {S : Sg} (h : n ≤ n2) : zf_W_copy g r k n g2 r2 k2 n2 S = some (0, zcp S g r k 0 g2 r2 k2 0 n) := by
  unfold zf_W_copy
  rw [zck_b (by omega), zlt_v]
theorem pl_like1 {S : Sg} {a b : Int} (hab : a ≠ b) {L : List (Nat × Int × Int × Int)} (n : Nat) {x y : Int} (hx : 0 ≤ x ∧ x < 12) (hy : y = x + 1) {U : Sg} (h : Lk S U a b L) : ∃ U2, zf_W_like_177 a b (n + 1) x U = zf_W_like_177 a b n y U2 ∧ Lk S U2 a b ((6, x, 0, ((120 : Nat) : Int)) :: L) := by
  subst hy
  rw [zf_W_like_177, if_neg (by omega), zck_b (by omega), pf_W_copy (by decide), zbd_s, zlt_v, zw_in (by omega) (by omega)]
  exact ⟨_, rfl, h.copy hab 6 x 120 (by omega)⟩
theorem pl_like2 {S : Sg} {a b : Int} (hab : a ≠ b) {L : List (Nat × Int × Int × Int)} (n : Nat) {x y : Int} (hx : 0 ≤ x ∧ x < 5) (hy : y = x + 1) {U : Sg} (h : Lk S U a b L) : ∃ U2, zf_W_like_504 a b (n + 1) x U = zf_W_like_504 a b n y U2 ∧ Lk S U2 a b ((8, x, 0, ((401 : Nat) : Int)) :: L) := by
  subst hy
  rw [zf_W_like_504, if_neg (by omega), zck_b (by omega), pf_W_copy (by decide), zbd_s, zlt_v, zw_in (by omega) (by omega)]
  exact ⟨_, rfl, h.copy hab 8 x 401 (by omega)⟩
def LkL : List (Nat × Int × Int × Int) := [(5, 34, 0, ((4 : Nat) : Int)), (8, 4, 0, ((401 : Nat) : Int)), (8, 3, 0, ((401 : Nat) : Int)), (8, 2, 0, ((401 : Nat) : Int)), (8, 1, 0, ((401 : Nat) : Int)), (8, 0, 0, ((401 : Nat) : Int)), (7, 1, 0, ((120 : Nat) : Int)), (7, 0, 0, ((120 : Nat) : Int)), (5, 33, 0, ((2 : Nat) : Int)), (5, 32, 0, ((2 : Nat) : Int)), (5, 0, 41, 1), (5, 0, 40, 1), (5, 0, 39, 1), (5, 0, 38, 1), (5, 31, 0, ((3 : Nat) : Int)), (5, 30, 0, ((4 : Nat) : Int)), (5, 29, 0, ((30 : Nat) : Int)), (5, 28, 0, ((30 : Nat) : Int)), (5, 0, 33, 1), (5, 27, 0, ((4 : Nat) : Int)), (5, 26, 0, ((4 : Nat) : Int)), (5, 25, 0, ((4 : Nat) : Int)), (5, 24, 0, ((8 : Nat) : Int)), (5, 23, 0, ((8 : Nat) : Int)), (5, 22, 0, ((8 : Nat) : Int)), (5, 21, 0, ((8 : Nat) : Int)), (5, 0, 25, 1), (5, 20, 0, ((12 : Nat) : Int)), (5, 19, 0, ((12 : Nat) : Int)), (5, 18, 0, ((12 : Nat) : Int)), (5, 17, 0, ((12 : Nat) : Int)), (5, 16, 0, ((12 : Nat) : Int)), (5, 15, 0, ((12 : Nat) : Int)), (5, 14, 0, ((12 : Nat) : Int)), (6, 11, 0, ((120 : Nat) : Int)), (6, 10, 0, ((120 : Nat) : Int)), (6, 9, 0, ((120 : Nat) : Int)), (6, 8, 0, ((120 : Nat) : Int)), (6, 7, 0, ((120 : Nat) : Int)), (6, 6, 0, ((120 : Nat) : Int)), (6, 5, 0, ((120 : Nat) : Int)), (6, 4, 0, ((120 : Nat) : Int)), (6, 3, 0, ((120 : Nat) : Int)), (6, 2, 0, ((120 : Nat) : Int)), (6, 1, 0, ((120 : Nat) : Int)), (6, 0, 0, ((120 : Nat) : Int)), (5, 0, 16, 1), (5, 0, 15, 1), (5, 13, 0, ((12 : Nat) : Int)), (5, 12, 0, ((12 : Nat) : Int)), (5, 11, 0, ((12 : Nat) : Int)), (5, 10, 0, ((12 : Nat) : Int)), (5, 9, 0, ((40 : Nat) : Int)), (5, 8, 0, ((40 : Nat) : Int)), (5, 7, 0, ((40 : Nat) : Int)), (5, 6, 0, ((40 : Nat) : Int)), (5, 5, 0, ((40 : Nat) : Int)), (5, 4, 0, ((40 : Nat) : Int)), (5, 3, 0, ((40 : Nat) : Int)), (5, 2, 0, ((40 : Nat) : Int)), (5, 1, 0, ((40 : Nat) : Int)), (5, 0, 1, 1), (5, 0, 0, 1)]
set_option maxHeartbeats 4000000 in
set_option maxRecDepth 100000 in
theorem bk_W {S : Sg} {a b : Int} (hab : a ≠ b) : ∃ S2, zf_W_like a b S = some (0, S2) ∧ Lk S S2 a b LkL := by
  have h0 : Lk S S a b [] := ⟨fun _ _ _ _ => rfl, fun _ h => absurd h (List.not_mem_nil)⟩
  unfold zf_W_like
  have h1 := h0.put hab 0
  have h2 := h1.put hab 1
  have h3 := h2.copy hab 5 1 40 (by omega)
  have h4 := h3.copy hab 5 2 40 (by omega)
  have h5 := h4.copy hab 5 3 40 (by omega)
  have h6 := h5.copy hab 5 4 40 (by omega)
  have h7 := h6.copy hab 5 5 40 (by omega)
  have h8 := h7.copy hab 5 6 40 (by omega)
  have h9 := h8.copy hab 5 7 40 (by omega)
  have h10 := h9.copy hab 5 8 40 (by omega)
  have h11 := h10.copy hab 5 9 40 (by omega)
  have h12 := h11.copy hab 5 10 12 (by omega)
  have h13 := h12.copy hab 5 11 12 (by omega)
  have h14 := h13.copy hab 5 12 12 (by omega)
  have h15 := h14.copy hab 5 13 12 (by omega)
  have h16 := h15.put hab 15
  have h17 := h16.put hab 16
  rw [zlt_v, zlt_v, pf_W_copy (by decide), zbd_s, pf_W_copy (by decide), zbd_s, pf_W_copy (by decide), zbd_s, pf_W_copy (by decide), zbd_s, pf_W_copy (by decide), zbd_s, pf_W_copy (by decide), zbd_s, pf_W_copy (by decide), zbd_s, pf_W_copy (by decide), zbd_s, pf_W_copy (by decide), zbd_s, pf_W_copy (by decide), zbd_s, pf_W_copy (by decide), zbd_s, pf_W_copy (by decide), zbd_s, pf_W_copy (by decide), zbd_s, zlt_v, zlt_v]
  obtain ⟨U18, e18, h18⟩ := pl_like1 hab (x := 0) (y := 1) 4095 (by decide) (by decide) h17
  rw [show zf_W_like_177 a b 4096 0 = zf_W_like_177 a b (4095 + 1) 0 from rfl, e18]
  obtain ⟨U19, e19, h19⟩ := pl_like1 hab (x := 1) (y := 2) 4094 (by decide) (by decide) h18
  rw [show zf_W_like_177 a b 4095 1 = zf_W_like_177 a b (4094 + 1) 1 from rfl, e19]
  obtain ⟨U20, e20, h20⟩ := pl_like1 hab (x := 2) (y := 3) 4093 (by decide) (by decide) h19
  rw [show zf_W_like_177 a b 4094 2 = zf_W_like_177 a b (4093 + 1) 2 from rfl, e20]
  obtain ⟨U21, e21, h21⟩ := pl_like1 hab (x := 3) (y := 4) 4092 (by decide) (by decide) h20
  rw [show zf_W_like_177 a b 4093 3 = zf_W_like_177 a b (4092 + 1) 3 from rfl, e21]
  obtain ⟨U22, e22, h22⟩ := pl_like1 hab (x := 4) (y := 5) 4091 (by decide) (by decide) h21
  rw [show zf_W_like_177 a b 4092 4 = zf_W_like_177 a b (4091 + 1) 4 from rfl, e22]
  obtain ⟨U23, e23, h23⟩ := pl_like1 hab (x := 5) (y := 6) 4090 (by decide) (by decide) h22
  rw [show zf_W_like_177 a b 4091 5 = zf_W_like_177 a b (4090 + 1) 5 from rfl, e23]
  obtain ⟨U24, e24, h24⟩ := pl_like1 hab (x := 6) (y := 7) 4089 (by decide) (by decide) h23
  rw [show zf_W_like_177 a b 4090 6 = zf_W_like_177 a b (4089 + 1) 6 from rfl, e24]
  obtain ⟨U25, e25, h25⟩ := pl_like1 hab (x := 7) (y := 8) 4088 (by decide) (by decide) h24
  rw [show zf_W_like_177 a b 4089 7 = zf_W_like_177 a b (4088 + 1) 7 from rfl, e25]
  obtain ⟨U26, e26, h26⟩ := pl_like1 hab (x := 8) (y := 9) 4087 (by decide) (by decide) h25
  rw [show zf_W_like_177 a b 4088 8 = zf_W_like_177 a b (4087 + 1) 8 from rfl, e26]
  obtain ⟨U27, e27, h27⟩ := pl_like1 hab (x := 9) (y := 10) 4086 (by decide) (by decide) h26
  rw [show zf_W_like_177 a b 4087 9 = zf_W_like_177 a b (4086 + 1) 9 from rfl, e27]
  obtain ⟨U28, e28, h28⟩ := pl_like1 hab (x := 10) (y := 11) 4085 (by decide) (by decide) h27
  rw [show zf_W_like_177 a b 4086 10 = zf_W_like_177 a b (4085 + 1) 10 from rfl, e28]
  obtain ⟨U29, e29, h29⟩ := pl_like1 hab (x := 11) (y := 12) 4084 (by decide) (by decide) h28
  rw [show zf_W_like_177 a b 4085 11 = zf_W_like_177 a b (4084 + 1) 11 from rfl, e29]
  rw [show zf_W_like_177 a b 4084 12 = zf_W_like_177 a b (4083 + 1) 12 from rfl, zf_W_like_177, if_pos (by decide)]
  have h30 := h29.copy hab 5 14 12 (by omega)
  have h31 := h30.copy hab 5 15 12 (by omega)
  have h32 := h31.copy hab 5 16 12 (by omega)
  have h33 := h32.copy hab 5 17 12 (by omega)
  have h34 := h33.copy hab 5 18 12 (by omega)
  have h35 := h34.copy hab 5 19 12 (by omega)
  have h36 := h35.copy hab 5 20 12 (by omega)
  have h37 := h36.put hab 25
  have h38 := h37.copy hab 5 21 8 (by omega)
  have h39 := h38.copy hab 5 22 8 (by omega)
  have h40 := h39.copy hab 5 23 8 (by omega)
  have h41 := h40.copy hab 5 24 8 (by omega)
  have h42 := h41.copy hab 5 25 4 (by omega)
  have h43 := h42.copy hab 5 26 4 (by omega)
  have h44 := h43.copy hab 5 27 4 (by omega)
  have h45 := h44.put hab 33
  have h46 := h45.copy hab 5 28 30 (by omega)
  have h47 := h46.copy hab 5 29 30 (by omega)
  have h48 := h47.copy hab 5 30 4 (by omega)
  have h49 := h48.copy hab 5 31 3 (by omega)
  have h50 := h49.put hab 38
  have h51 := h50.put hab 39
  have h52 := h51.put hab 40
  have h53 := h52.put hab 41
  have h54 := h53.copy hab 5 32 2 (by omega)
  have h55 := h54.copy hab 5 33 2 (by omega)
  have h56 := h55.copy hab 7 0 120 (by omega)
  have h57 := h56.copy hab 7 1 120 (by omega)
  rw [pf_W_copy (by decide), zbd_s, pf_W_copy (by decide), zbd_s, pf_W_copy (by decide), zbd_s, pf_W_copy (by decide), zbd_s, pf_W_copy (by decide), zbd_s, pf_W_copy (by decide), zbd_s, pf_W_copy (by decide), zbd_s, zlt_v, pf_W_copy (by decide), zbd_s, pf_W_copy (by decide), zbd_s, pf_W_copy (by decide), zbd_s, pf_W_copy (by decide), zbd_s, pf_W_copy (by decide), zbd_s, pf_W_copy (by decide), zbd_s, pf_W_copy (by decide), zbd_s, zlt_v, pf_W_copy (by decide), zbd_s, pf_W_copy (by decide), zbd_s, pf_W_copy (by decide), zbd_s, pf_W_copy (by decide), zbd_s, zlt_v, zlt_v, zlt_v, zlt_v, pf_W_copy (by decide), zbd_s, pf_W_copy (by decide), zbd_s, pf_W_copy (by decide), zbd_s, pf_W_copy (by decide), zbd_s]
  obtain ⟨U58, e58, h58⟩ := pl_like2 hab (x := 0) (y := 1) 4095 (by decide) (by decide) h57
  rw [show zf_W_like_504 a b 4096 0 = zf_W_like_504 a b (4095 + 1) 0 from rfl, e58]
  obtain ⟨U59, e59, h59⟩ := pl_like2 hab (x := 1) (y := 2) 4094 (by decide) (by decide) h58
  rw [show zf_W_like_504 a b 4095 1 = zf_W_like_504 a b (4094 + 1) 1 from rfl, e59]
  obtain ⟨U60, e60, h60⟩ := pl_like2 hab (x := 2) (y := 3) 4093 (by decide) (by decide) h59
  rw [show zf_W_like_504 a b 4094 2 = zf_W_like_504 a b (4093 + 1) 2 from rfl, e60]
  obtain ⟨U61, e61, h61⟩ := pl_like2 hab (x := 3) (y := 4) 4092 (by decide) (by decide) h60
  rw [show zf_W_like_504 a b 4093 3 = zf_W_like_504 a b (4092 + 1) 3 from rfl, e61]
  obtain ⟨U62, e62, h62⟩ := pl_like2 hab (x := 4) (y := 5) 4091 (by decide) (by decide) h61
  rw [show zf_W_like_504 a b 4092 4 = zf_W_like_504 a b (4091 + 1) 4 from rfl, e62]
  rw [show zf_W_like_504 a b 4091 5 = zf_W_like_504 a b (4090 + 1) 5 from rfl, zf_W_like_504, if_pos (by decide)]
  have h63 := h62.copy hab 5 34 4 (by omega)
  rw [pf_W_copy (by decide), zbd_s]
  exact ⟨_, rfl, h63⟩
