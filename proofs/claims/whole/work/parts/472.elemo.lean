/-! ===== IslandOffice.element: returns or throws ===== -/
abbrev zXI : String := "java/lang/IllegalArgumentException"
abbrev zXS : String := "java/lang/IllegalStateException"
abbrev zNe : List String := ["java/lang/RuntimeException", "java/lang/Exception"]
/-- what a throw needs beyond the good words -/
def zE (A : Nat → Prop) (U : State) : Prop := vx_Zq Bundle.tN "UNASSIGNED_STACK" Bundle.steD A U U.heap ∧ vx_Zq Bundle.tN "SUPPRESSED_SENTINEL" Bundle.listD A U U.heap ∧ (∃ a, vk_R "IslandOffice" 374 "no such shelf" a U) ∧ (∃ a, vk_R "IslandOffice" 381 "no row, or no such place in it" a U) ∧ va_Nw (.declares ⟨"java/lang/RuntimeException", "<init>", "(Ljava/lang/String;)V"⟩) U ∧ va_Nw (.declares ⟨"java/lang/Exception", "<init>", "(Ljava/lang/String;)V"⟩) U ∧ va_Nw (.declares ⟨"java/lang/Throwable", "<init>", "(Ljava/lang/String;)V"⟩) U ∧ va_Nw (.castable zXI zXI) U ∧ va_Nw (.castable zXS zXS) U ∧ va_Nc zXS zXI U
theorem zE.warm {A : Nat → Prop} {s U : State} {H : Heap} {locs : List Loc} (h : zE A s) (hS : va_S A s.heap H locs) (hU : U.heap = H) (hW : s.WarmedH U.vm) : zE A U := by
  obtain ⟨h1, h2, ⟨a, h3⟩, ⟨b, h4⟩, h5, h6, h7, h8, h9, h10⟩ := h
  exact ⟨vx_Zq.moved hW.alike (by rw [hU]; exact h1.kept hS.2.1), vx_Zq.moved hW.alike (by rw [hU]; exact h2.kept hS.2.1), ⟨a, h3.warm hW⟩, ⟨b, h4.warm hW⟩, h5.warmD hW, h6.warmD hW, h7.warmD hW, h8.warmC hW, h9.warmC hW, h10.moved hW.alike⟩
theorem zE.words {A : Nat → Prop} {s : State} {args : Array Value} (h : zE A s) (hz : ∀ w ∈ zT, w.before args s = true) : (∀ w ∈ vx_atS "IslandOffice" 376 zXI zNe, w.before args s = true) ∧ (∀ w ∈ vx_atS "IslandOffice" 383 zXS zNe, w.before args s = true) := by
  obtain ⟨-, -, -, -, h5, h6, h7, h8, h9, -⟩ := h
  refine ⟨vx_hat (B := [.declares ⟨"java/lang/RuntimeException", "<init>", "(Ljava/lang/String;)V"⟩, .declares ⟨"java/lang/Exception", "<init>", "(Ljava/lang/String;)V"⟩, .declares ⟨"java/lang/Throwable", "<init>", "(Ljava/lang/String;)V"⟩, .castable zXI zXI]) (fun w hw => hz w (List.mem_filter.mpr ⟨(show ∀ w ∈ (vx_atS "IslandOffice" 376 zXI zNe).filter goodWord, w ∈ lw_tbl by decide +kernel) w hw, (List.mem_filter.mp hw).2⟩)) (by decide +kernel) (vx_c (va_Nw.use rfl h5) (vx_c (va_Nw.use rfl h6) (vx_c (va_Nw.use rfl h7) (vx_c (va_Nw.use rfl h8) vx_n)))), vx_hat (B := [.declares ⟨"java/lang/RuntimeException", "<init>", "(Ljava/lang/String;)V"⟩, .declares ⟨"java/lang/Exception", "<init>", "(Ljava/lang/String;)V"⟩, .declares ⟨"java/lang/Throwable", "<init>", "(Ljava/lang/String;)V"⟩, .castable zXS zXS]) (fun w hw => hz w (List.mem_filter.mpr ⟨(show ∀ w ∈ (vx_atS "IslandOffice" 383 zXS zNe).filter goodWord, w ∈ lw_tbl by decide +kernel) w hw, (List.mem_filter.mp hw).2⟩)) (by decide +kernel) (vx_c (va_Nw.use rfl h5) (vx_c (va_Nw.use rfl h6) (vx_c (va_Nw.use rfl h7) (vx_c (va_Nw.use rfl h9) vx_n))))⟩
abbrev zy_O_element : MethodName := ⟨"IslandOffice", "element", "(II)J"⟩
abbrev zb_O_element : ByteArray := prog_1_method_43_code
theorem zd_O_element_0 : decode zb_O_element 0 = .ok (.iload_n 1, 1) := by decide +kernel
theorem zd_O_element_1 : decode zb_O_element 1 = .ok (.invokestatic 151, 3) := by decide +kernel
theorem zd_O_element_4 : decode zb_O_element 4 = .ok (.ifCond .ne 14, 3) := by decide +kernel
theorem zd_O_element_7 : decode zb_O_element 7 = .ok (.new 372, 3) := by decide +kernel
theorem zd_O_element_10 : decode zb_O_element 10 = .ok (.dup, 1) := by decide +kernel
theorem zd_O_element_11 : decode zb_O_element 11 = .ok (.ldc_w 374, 3) := by decide +kernel
theorem zd_O_element_14 : decode zb_O_element 14 = .ok (.invokespecial 376, 3) := by decide +kernel
theorem zd_O_element_17 : decode zb_O_element 17 = .ok (.athrow, 1) := by decide +kernel
theorem zd_O_element_18 : decode zb_O_element 18 = .ok (.aload_n 0, 1) := by decide +kernel
theorem zd_O_element_19 : decode zb_O_element 19 = .ok (.getfield 36, 3) := by decide +kernel
theorem zd_O_element_22 : decode zb_O_element 22 = .ok (.iload_n 1, 1) := by decide +kernel
theorem zd_O_element_23 : decode zb_O_element 23 = .ok (.aaload, 1) := by decide +kernel
theorem zd_O_element_24 : decode zb_O_element 24 = .ok (.astore_n 3, 1) := by decide +kernel
theorem zd_O_element_25 : decode zb_O_element 25 = .ok (.aload_n 3, 1) := by decide +kernel
theorem zd_O_element_26 : decode zb_O_element 26 = .ok (.getfield 154, 3) := by decide +kernel
theorem zd_O_element_29 : decode zb_O_element 29 = .ok (.iconst 3, 1) := by decide +kernel
theorem zd_O_element_30 : decode zb_O_element 30 = .ok (.if_icmp .ne 11, 3) := by decide +kernel
theorem zd_O_element_33 : decode zb_O_element 33 = .ok (.aload_n 3, 1) := by decide +kernel
theorem zd_O_element_34 : decode zb_O_element 34 = .ok (.iload_n 2, 1) := by decide +kernel
theorem zd_O_element_35 : decode zb_O_element 35 = .ok (.invokevirtual 366, 3) := by decide +kernel
theorem zd_O_element_38 : decode zb_O_element 38 = .ok (.ifCond .ne 14, 3) := by decide +kernel
theorem zd_O_element_41 : decode zb_O_element 41 = .ok (.new 379, 3) := by decide +kernel
theorem zd_O_element_44 : decode zb_O_element 44 = .ok (.dup, 1) := by decide +kernel
theorem zd_O_element_45 : decode zb_O_element 45 = .ok (.ldc_w 381, 3) := by decide +kernel
theorem zd_O_element_48 : decode zb_O_element 48 = .ok (.invokespecial 383, 3) := by decide +kernel
theorem zd_O_element_51 : decode zb_O_element 51 = .ok (.athrow, 1) := by decide +kernel
theorem zd_O_element_52 : decode zb_O_element 52 = .ok (.aload_n 3, 1) := by decide +kernel
theorem zd_O_element_53 : decode zb_O_element 53 = .ok (.getfield 161, 3) := by decide +kernel
theorem zd_O_element_56 : decode zb_O_element 56 = .ok (.iload_n 2, 1) := by decide +kernel
theorem zd_O_element_57 : decode zb_O_element 57 = .ok (.iaload, 1) := by decide +kernel
theorem zd_O_element_58 : decode zb_O_element 58 = .ok (.i2l, 1) := by decide +kernel
theorem zd_O_element_59 : decode zb_O_element 59 = .ok (.lreturn, 1) := by decide +kernel
theorem pf_S_hasPlace (r x : Int) (S : Sg) : zf_S_hasPlace r x S = some (if 0 ≤ x ∧ x < S 2 r 0 5 ∧ x < 120 then 1 else 0, S) := by
  unfold zf_S_hasPlace
  split
  · rw [if_neg (by omega)]
  · split
    · rw [if_neg (by omega)]
    · split
      · rw [if_neg (by omega)]
      · rw [if_pos (by omega)]
def zXC (B : zB) (S : Sg) (x y : Int) : String → State → State → Prop := vx_X (fun (_ : Unit) => True) (fun E _ t => zW B S t.heap ∧ zK B t ∧ (E = zXI ∧ ek S x y = 1 ∨ E = zXS ∧ ek S x y = 2)) B.2.2.2
def zQe (B : zB) (S : Sg) (x y : Int) : Array Value → State → Outcome → State → Prop := va_Ql (fun (z : Int64) (_ : Unit) => z = zL (S 2 x 1 y) ∧ zm (S 2 x 1 y) ∧ ek S x y = 0) (fun _ t => zW B S t.heap ∧ zK B t) B.2.2.2
theorem zE_W {B : zB} {S : Sg} {H H1 : Heap} (hW : zW B S H) (hk : ∀ q : Nat, q < H.size → H1[q]? = H[q]?) : zW B S H1 := ⟨hW.1.kept (fun k q hq => hk q.1 ((hW.1 k q hq).lt)), hW.2⟩
theorem zE_F {A : Nat → Prop} {s t : State} {H : Heap} {locs : List Loc} (hS : va_S A s.heap H locs) (hz : H.size ≤ t.heap.size) (hk : ∀ q : Nat, q < H.size → t.heap[q]? = H[q]?) : va_F A s t := (show va_S A s.heap t.heap locs from ⟨Nat.le_trans hS.1 hz, fun q h1 h2 => (hk q (Nat.lt_of_lt_of_le h1 hS.1)).trans (hS.2.1 q h1 h2), hS.2.2⟩).F rfl
abbrev zm_O_element : Room := { frames := 12, cells := 1, slots := 6, locals := 200 }
set_option maxHeartbeats 4000000 in
set_option maxRecDepth 100000 in
theorem zw_O_element {p : Program} {l : Launch} (hfl : l.stackTraces = false) {e : Env} {s : State} {m : MethodId} {args : Array Value} {below : List Frame} {meth : Method} {c : Code} {B : zB} (C : CallFix p m c zb_O_element 4 s args zT "IslandOffice") (hne : ∀ x ∈ c.exceptionTable.toList, False) (hr : meth.sig.returnType = some .long) (hlk : meth.locks = false) (hK : zK B s) (hSt : zSt B s) (hE : zE B.2.2.2 s) (hap : zAp B) (x1 x2 : Int) (S : Sg) (hR : Rel S) (nx1 : zn x1) (nx2 : zn x2) : ∀ (H : Heap) (locs : List Loc) (ls : Array Slot), zW B S H → va_S B.2.2.2 s.heap H locs → lv_has ls 4 [(0, .ref (B.2.1 3 0 0)), (1, .int (zI x1)), (2, .int (zI x2))] → W p l e zm_O_element s m args below meth c H locs 0 0 (vx_MQ below (zQe B S x1 x2) (zXC B S x1 x2) args s 1 6 B.2.2.2) (F0 m 0 ls []) := by
  intro H locs ls hW hS hl
  obtain ⟨a1, w1⟩ := hE.2.2.1
  obtain ⟨a2, w2⟩ := hE.2.2.2.1
  refine lv_iload_n C.1 C.2.1 zd_O_element_0 rfl (lv_at hl 1 rfl) ?_
  refine zcSi (As := [.int (zI (x1))]) (rest := []) C hK hSt hW hS (zc_O_isShelf hap x1 S nx1 (pf_O_isShelf x1 S)) zq_O_isShelf zk_612 ⟨rfl, rfl, by decide, by decide⟩ ⟨Nat.zero_le _, Nat.zero_le _⟩ rfl hl.1 rfl (lv_room (Nat.le_of_ble_eq_true rfl)) zd_O_element_1 (fun na1 H locs hW hS => ?_)
  have hthr : ek S x1 x2 = 2 → ∀ (H : Heap) (locs : List Loc) (ls : Array Slot), zW B S H → va_S B.2.2.2 s.heap H locs → ls.size = 4 → W p l e zm_O_element s m args below meth c H locs 0 0 (vx_MQ below (zQe B S x1 x2) (zXC B S x1 x2) args s 1 6 B.2.2.2) (F0 m 41 ls []) := by
    intro ee H locs ls hW hS hls
    have hl : ls.size = 4 ∧ True := ⟨hls, trivial⟩
    refine vx_throwSW (own := "IslandOffice") (cls := zXS) (names := zNe) (ik := 379) (is := 381) (ic := 383) C.1 C.2.1 hfl C.2.2.2.1 (by decide +kernel) (by decide +kernel) (C.2.2.2.2 _ zk_1246) (C.2.2.2.2 _ zk_24) w2 (hE.words C.2.2.2.2).2 (by decide +kernel) hE.1 hE.2.1 hS (hl.1.trans C.2.2.1.symm) zd_O_element_41 zd_O_element_44 zd_O_element_45 zd_O_element_48 zd_O_element_51 (fun x hx => (hne x hx).elim) (by decide) (by decide) (Nat.le_of_ble_eq_true rfl) (Nat.le_of_ble_eq_true rfl) hlk (fun t ht hz hk => ?_) (fun z hz => hS.2.2 z hz) (Nat.le_of_ble_eq_true rfl) (Nat.le_of_ble_eq_true rfl)
    exact ⟨(), trivial, ⟨zE_W hW hk, va_K.moved ht hK, Or.inr ⟨rfl, ee⟩⟩, zE_F hS hz hk⟩
  refine zr_if_ne (tgt := 18) C na1 zd_O_element_4 (by decide) (fun c3 => ?_) (fun c3 => ?_)
  · have hd : 0 ≤ x1 ∧ x1 < 8 := by
      by_cases h : 0 ≤ x1 ∧ x1 < 8
      · exact h
      · exact absurd (if_neg h) c3
    have q := hR.2 x1 hd.1 hd.2
    unfold Rs1 at q
    refine lv_aload_n C.1 C.2.1 zd_O_element_18 rfl (lv_at hl 0 rfl) ?_
    refine zg_O_shelves (r := 0) C hK hW (zvd_3 (by decide) (by decide)) zk_497 zd_O_element_19 ?_
    refine lv_iload_n C.1 C.2.1 zd_O_element_22 rfl (lv_at hl 1 rfl) ?_
    refine zaald (t0 := 3) C hK hW (zvd_3 (by decide) (by decide)) (fun f => ze_3_3 B f (0)) rfl rfl (by decide) hd zd_O_element_23 (a := B.2.1 2 (x1) (0)) (by rw [Int.toNat_of_nonneg hd.1]) ?_
    refine lv_astore_n (lv' := [(3, .ref (B.2.1 2 (x1) (0))), (0, .ref (B.2.1 3 (0) (0))), (1, .int (zI (x1))), (2, .int (zI x2))]) C.1 C.2.1 zd_O_element_24 rfl hl (by decide) rfl (fun ls hl => ?_)
    refine lv_aload_n C.1 C.2.1 zd_O_element_25 rfl (lv_at hl 0 rfl) ?_
    refine zg_S_holds (r := x1) C hK hW (zvd_2 hd (by decide)) zk_344 zd_O_element_26 ?_
    refine zr_iconst C zd_O_element_29 ?_
    refine zr_icmp_ne (tgt := 41) C (zWn hW _ _ _ _ rfl) (znb rfl) zd_O_element_30 (by decide) (fun c6 => ?_) (fun c6 => ?_)
    · exact hthr (by unfold ek; rw [if_pos hd, if_neg (fun h => c6 h.1)]) H locs ls hW hS hl.1
    · have h3 : S 2 x1 0 0 = 3 := c6
      obtain ⟨-, -, -, b4, -⟩ := q.2.2.1 h3
      refine lv_aload_n C.1 C.2.1 zd_O_element_33 rfl (lv_at hl 0 rfl) ?_
      refine lv_iload_n C.1 C.2.1 zd_O_element_34 rfl (lv_at hl 3 rfl) ?_
      refine zcVi (As := [.int (zI (x2))]) (rest := []) C hK hSt hW hS (zc_S_hasPlace hap (x1) hd x2 S nx2 (pf_S_hasPlace x1 x2 S)) zq_S_hasPlace zk_1145 (zrecv hK hW (zvd_2 hd (by decide)) (ze_2_0 B _ (x1)) rfl) ⟨rfl, rfl, by decide, by decide⟩ ⟨Nat.zero_le _, Nat.zero_le _⟩ rfl hl.1 rfl (lv_room (Nat.le_of_ble_eq_true rfl)) zd_O_element_35 (fun na7 H locs hW hS => ?_)
      refine zr_if_ne (tgt := 52) C na7 zd_O_element_38 (by decide) (fun c7 => ?_) (fun c7 => ?_)
      · have hy : 0 ≤ x2 ∧ x2 < S 2 x1 0 5 ∧ x2 < 120 := by
          by_cases h : 0 ≤ x2 ∧ x2 < S 2 x1 0 5 ∧ x2 < 120
          · exact h
          · exact absurd (if_neg h) c7
        have ee : ek S x1 x2 = 0 := by
          unfold ek
          rw [if_pos hd, if_pos ⟨h3, hy.1, hy.2.1⟩]
        refine vx_ret ?_
        refine lv_aload_n C.1 C.2.1 zd_O_element_52 rfl (lv_at hl 0 rfl) ?_
        refine zg_S_cell (r := x1) C hK hW (zvd_2 hd (by decide)) zk_356 zd_O_element_53 ?_
        refine lv_iload_n C.1 C.2.1 zd_O_element_56 rfl (lv_at hl 3 rfl) ?_
        refine ziald C hK hW (zvd_2 hd (by decide)) (fun f => ze_2_1 B f (x1)) (by decide) ⟨hy.1, hy.2.2⟩ zd_O_element_57 ?_
        have hn := zWn hW 2 x1 1 x2 rfl
        refine zr_i2l C hn zd_O_element_58 ?_
        refine W.widen (k := 1) (n := 6) (Nat.zero_le _) (Nat.zero_le _) ?_
        exact W.lret C.1 C.2.1 hr (fun t ht hWm => ⟨⟨zL (S 2 x1 1 x2), (), rfl, ⟨rfl, zm_n hn, ee⟩, by rw [ht]; exact hW, va_K.moved hWm.alike hK⟩, hS.F ht⟩) hS.2.2 zd_O_element_59 hlk
      · exact hthr (by unfold ek; rw [if_pos hd, if_neg (fun h => by rw [if_pos ⟨h.2.1, h.2.2, by omega⟩] at c7; exact absurd c7 (by decide))]) H locs ls hW hS hl.1
  · have hd : ¬ (0 ≤ x1 ∧ x1 < 8) := fun h => by
      rw [if_pos h] at c3
      exact absurd c3 (by decide)
    have ee : ek S x1 x2 = 1 := by
      unfold ek
      rw [if_neg hd]
    refine vx_throwSW (own := "IslandOffice") (cls := zXI) (names := zNe) (ik := 372) (is := 374) (ic := 376) C.1 C.2.1 hfl C.2.2.2.1 (by decide +kernel) (by decide +kernel) (C.2.2.2.2 _ zk_1179) (C.2.2.2.2 _ zk_23) w1 (hE.words C.2.2.2.2).1 (by decide +kernel) hE.1 hE.2.1 hS (hl.1.trans C.2.2.1.symm) zd_O_element_7 zd_O_element_10 zd_O_element_11 zd_O_element_14 zd_O_element_17 (fun x hx => (hne x hx).elim) (by decide) (by decide) (Nat.le_of_ble_eq_true rfl) (Nat.le_of_ble_eq_true rfl) hlk (fun t ht hz hk => ?_) (fun z hz => hS.2.2 z hz) (Nat.le_of_ble_eq_true rfl) (Nat.le_of_ble_eq_true rfl)
    exact ⟨(), trivial, ⟨zE_W hW hk, va_K.moved ht hK, Or.inl ⟨rfl, ee⟩⟩, zE_F hS hz hk⟩
