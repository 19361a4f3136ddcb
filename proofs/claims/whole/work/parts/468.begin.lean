/-! ===== the law: from its entry to its loop ===== -/
theorem zd_law_0 : decode code 0 = .ok (.new 8, 3) := by decide +kernel
theorem zd_law_3 : decode code 3 = .ok (.dup, 1) := by decide +kernel
theorem zd_law_4 : decode code 4 = .ok (.invokespecial 17, 3) := by decide +kernel
theorem zd_law_7 : decode code 7 = .ok (.astore_n 1, 1) := by decide +kernel
theorem zd_law_8 : decode code 8 = .ok (.new 18, 3) := by decide +kernel
theorem zd_law_11 : decode code 11 = .ok (.dup, 1) := by decide +kernel
theorem zd_law_12 : decode code 12 = .ok (.invokespecial 20, 3) := by decide +kernel
theorem zd_law_15 : decode code 15 = .ok (.astore_n 2, 1) := by decide +kernel
theorem zd_law_16 : decode code 16 = .ok (.iconst 1, 1) := by decide +kernel
theorem zd_law_17 : decode code 17 = .ok (.newarray .long, 2) := by decide +kernel
theorem zd_law_19 : decode code 19 = .ok (.astore_n 3, 1) := by decide +kernel
theorem zd_law_20 : decode code 20 = .ok (.iconst 0, 1) := by decide +kernel
theorem zd_law_21 : decode code 21 = .ok (.istore 4, 2) := by decide +kernel
theorem zd_law_1945 : decode code 1945 = .ok (.iconst 1, 1) := by decide +kernel
theorem zd_law_1946 : decode code 1946 = .ok (.ireturn, 1) := by decide +kernel
set_option maxHeartbeats 4000000 in
set_option maxRecDepth 100000 in
theorem z_start {p : Program} {e : Env} {s : State} {m : MethodId} {below : List Frame} {meth : Method} {c : Code} (l : Launch) {b L : Nat} {xs : Nat → Int32} (hL : L ≤ 3072) (C0 : lw_At p s m meth c b L xs) {d1 d2 : Nat} (hd : 400 + 512 * d1 ≤ 601024 ∧ 27421 + 512 * d2 ≤ 7293034)
    (h41 : ∀ B : zB, (∀ q, B.2.2.2 q ↔ s.heap.size ≤ q) → LX B b L xs s → ∀ (i : Nat) (S : Sg) (H : Heap) (locs : List Loc) (ls : Array Slot) (cells slots : Nat), Rel S → zW B S H → va_S B.2.2.2 s.heap H locs → lv_has ls 8 (Ll B b i) → i + 5 < L → cells + d1 ≤ room_1.cells → slots + d2 ≤ room_1.slots → (∀ (S2 : Sg) (H2 : Heap) (locs2 : List Loc) (ls2 : Array Slot), Rel S2 → zW B S2 H2 → va_S B.2.2.2 s.heap H2 locs2 → lv_has ls2 8 (Ll B b i) → W p l e room_1 s m #[Value.ref b] below meth c H2 locs2 (cells + d1) (slots + d2) (lw_Z below #[Value.ref b] s) (F0 m 1939 ls2 [])) → W p l e room_1 s m #[Value.ref b] below meth c H locs cells slots (lw_Z below #[Value.ref b] s) (F0 m 1749 ls [])) :
    W p l e room_1 s m #[Value.ref b] below meth c s.heap [] 0 0 (lw_Z below #[Value.ref b] s) (entryFrame m ([Value.ref b] : List Value).toArray 8) := by
  obtain ⟨hx, hb, hr, hml, hown, hts, hX, hbl, hlocks, hgv⟩ := C0
  have C : CallFix p m c code 8 s #[Value.ref b] zT "IslandOfficeLaw" := ⟨hx, hb, hml, hown, fun w hw => hts w (List.mem_filter.mp hw).1⟩
  obtain ⟨D, cT, hKall, hZ⟩ := z_tabs hts
  obtain ⟨B, hBe⟩ : ∃ B : zB, B = (D, fun _ _ _ => 0, cT, fun q => s.heap.size ≤ q) := ⟨_, rfl⟩
  have hB4 : ∀ q, B.2.2.2 q ↔ s.heap.size ≤ q := by
    subst hBe
    exact fun q => Iff.rfl
  have hK : zK B s := by
    rw [hBe]
    exact hKall _ _
  have hst : zSt B s := z_stat hts hgv (fun a ha h => by
    have := (hB4 a).mp h
    omega)
  have hA : ∀ q, s.heap.size ≤ q → B.2.2.2 q := fun q h => (hB4 q).mpr h
  have hS : va_S B.2.2.2 s.heap s.heap [] := va_S.rf
  have hP : va_P B.1 zcl ([] ++ []) s.heap := fun k q h => by simp at h
  have hD : va_D B.2.2.2 ([] ++ []) := ⟨fun i j p q h => by simp at h, fun k q h => by simp at h⟩
  have hl := lv_entry ([.ref b]) (n := 8) (Nat.le_of_ble_eq_true rfl)
  rw [lg_entry_eq]
  generalize (lg_sl ([.ref b]) ++ List.replicate (8 - (lg_sl ([.ref b])).length) Slot.unset).toArray = ls at hl ⊢
  have hl : lv_has ls 8 [(0, .ref b)] := hl
  refine zi_new (P := []) (L := []) (ci := 0) (fs := [.null, .null, .null, .int 0, .null, .null, .null, .null, .null, .null]) C hK hP hD hS hA zh_O zt_O zt_O_ok zk_25 zk_26 zk_1 rfl zdv_O (Nat.le_of_ble_eq_true rfl) (Nat.le_of_ble_eq_true rfl) zd_law_0 (fun h0 H hP hD hS => ?_)
  refine lv_dup C.1 C.2.1 zd_law_3 rfl ?_
  refine zi_call (P := []) (L := []) (n := 0) (As := []) (rest := [.ref h0]) C hK hZ hst.1 hP hD hS hA (fun _ h => h) (fun hB => zin_O h0 H.size hB) zk_29 zk_1 zk_27 zk_28 rfl ⟨by decide, by decide, by decide +kernel⟩ ⟨rfl, rfl, Nat.le_of_ble_eq_true rfl, Nat.le_of_ble_eq_true rfl⟩ ⟨Nat.le_of_ble_eq_true rfl, Nat.le_of_ble_eq_true rfl⟩ rfl hl.1 rfl (lv_room (Nat.le_of_ble_eq_true rfl)) zd_law_4 (fun q H locs hP hD hS => ?_)
  refine lv_astore_n (lv' := [(1, .ref h0), (0, .ref b)]) C.1 C.2.1 zd_law_7 rfl hl (by decide) rfl (fun ls hl => ?_)
  refine zi_new (P := []) (L := ww_O B h0 q ++ []) (ci := 12) (fs := [.null, .null, .null, .int 0, .int 0, .null, .null, .null, .null, .null, .null, .int 0, .int 0, .int 0, .int 0]) C hK hP hD hS hA zh_M zt_M zt_M_ok zk_1262 zk_1263 zk_14 rfl zdv_M (Nat.le_of_ble_eq_true rfl) (Nat.le_of_ble_eq_true rfl) zd_law_8 (fun h1 H hP hD hS => ?_)
  refine lv_dup C.1 C.2.1 zd_law_11 rfl ?_
  refine zi_call (P := []) (L := ww_O B h0 q ++ []) (n := 0) (As := []) (rest := [.ref h1]) C hK hZ hst.1 hP hD hS hA (fun _ h => h) (fun hB => zin_M h1 H.size hB) zk_1266 zk_14 zk_1264 zk_1265 rfl ⟨by decide, by decide, by decide +kernel⟩ ⟨rfl, rfl, Nat.le_of_ble_eq_true rfl, Nat.le_of_ble_eq_true rfl⟩ ⟨Nat.le_of_ble_eq_true rfl, Nat.le_of_ble_eq_true rfl⟩ rfl hl.1 rfl (lv_room (Nat.le_of_ble_eq_true rfl)) zd_law_12 (fun u H locs hP hD hS => ?_)
  refine lv_astore_n (lv' := [(2, .ref h1), (1, .ref h0), (0, .ref b)]) C.1 C.2.1 zd_law_15 rfl hl (by decide) rfl (fun ls hl => ?_)
  refine zr_iconst C zd_law_16 ?_
  refine zi_newl (P := []) (L := ww_M B h1 u ++ (ww_O B h0 q ++ [])) (N := 1) C hK hP hD hS hA rfl (by decide) (Nat.le_of_ble_eq_true rfl) (Nat.le_of_ble_eq_true rfl) zk_459 zd_law_17 (fun ho H hP hD hS => ?_)
  refine lv_astore_n (lv' := [(3, .ref ho), (2, .ref h1), (1, .ref h0), (0, .ref b)]) C.1 C.2.1 zd_law_19 rfl hl (by decide) rfl (fun ls hl => ?_)
  refine zr_iconst C zd_law_20 ?_
  refine lv_istore (lv' := [(4, .int (zI 0)), (3, .ref ho), (2, .ref h1), (1, .ref h0), (0, .ref b)]) C.1 C.2.1 zd_law_21 hl (by decide) rfl (fun ls hl => ?_)
  have hp : ([] ++ ((ho, el B 1) :: (ww_M B h1 u ++ (ww_O B h0 q ++ [])))).Perm (ww_O B h0 q ++ (ww_M B h1 u ++ [(ho, el B 1)])) := by
    rw [List.nil_append, List.append_nil, ← List.append_assoc]
    exact (List.perm_append_singleton (ho, el B 1) (ww_M B h1 u ++ ww_O B h0 q)).symm.trans (List.Perm.append_right _ List.perm_append_comm)
  have hP := zP_perm hP hp
  have hD := zD_perm hD hp
  have hW : zW (zB2 B (zTb h0 q h1 u ho)) S0 H := zS0_W hP
  have hAp : zAp (zB2 B (zTb h0 q h1 u ho)) := zS0_A hD
  have hx2 : LX (zB2 B (zTb h0 q h1 u ho)) b L xs s := ⟨hK, hst, hAp, hX, hbl, fun h => by
    have := (hB4 b).mp h
    omega, hL⟩
  have hl : lv_has ls 8 (Ll (zB2 B (zTb h0 q h1 u ho)) b 0) := hl
  refine zl_loop (d1 := d1) (d2 := d2) (CE := 601024) (SE := 7293034) C hx2 ⟨Nat.le_refl _, Nat.le_refl _⟩ (h41 _ hB4 hx2) (fun H locs ls hS => ?_) 512 0 S0 H locs ls _ _ Rel_0 hW hS hl (by omega) (Nat.zero_le _) (by omega) (by omega)
  refine zr_iconst C zd_law_1945 ?_
  refine va_forget (fun q hq => (hB4 _).mp (hS.2.2 q hq)) ?_
  exact lw_ret hx hb hr hlocks zd_law_1946
